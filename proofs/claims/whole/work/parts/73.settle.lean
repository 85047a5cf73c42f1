/-! lists laid anew (settle, listTurns), for each town of the class -/
theorem gd_at {p : Nat → Bool} {N k : Nat} (hk : k < N) (hp : p k = true) : ((List.range N).filter p).getD (cn p k) 0 = k := by
  rw [List.getD_eq_getElem?_getD, ← cn_fl, fl_at N k hk hp]
  rfl
theorem tB_8 {t : tw} {a z : Nat} (hz : z < 8) : tB t (8 * a + z) = (arp t a && nbp t (a % 8) z) := by
  unfold tB arp nbp
  rw [show (8 * a + z) / 8 = a from by omega, show (8 * a + z) % 64 = 8 * (a % 8) + z from by omega]
theorem cn_b (p : Nat → Bool) (n : Nat) (h : p n = true) {N : Nat} (hn : n < N) : cn p n < cn p N := by
  have h1 : ∀ m, cn p (n + 1) ≤ cn p (n + 1 + m) := by
    intro m
    induction m with
    | zero => exact Nat.le_refl _
    | succ m ih => exact Nat.le_trans ih (Nat.le_add_right _ _)
  have h2 := h1 (N - (n + 1))
  rw [show n + 1 + (N - (n + 1)) = N from by omega, cn_1 h] at h2
  omega
def frS3 (I J : Nat → Nat → Int32) : Prop := (∀ a, a ≠ 3 → a ≠ 5 → a ≠ 6 → a ≠ 7 → a ≠ 8 → J a = I a) ∧ ∀ k, k ≠ 5 → k ≠ 6 → J 3 k = I 3 k
theorem c_listTurns_3 {e : am_V} {I : Nat → Nat → Int32} {L : Nat → Nat → Int64} {Q : (Nat → Nat → Int32) → Prop} {t : tw} (h5 : I 3 5 = nI (ar t).length) (hD : ∀ x, x < 8 → I 5 x = nI (nb t x).length) (hN : ∀ x, x < 8 → ∀ i, i < (nb t x).length → I 6 (8 * x + i) = nI ((nb t x).getD i 0)) (hA : ∀ i, i < (ar t).length → I 7 i = nI ((ar t).getD i 0)) (hQ : ∀ J, (∀ a, a ≠ 3 → a ≠ 8 → J a = I a) → (∀ k, k ≠ 6 → J 3 k = I 3 k) → J 3 6 = nI (tu t).length → (∀ i, i < (tu t).length → J 8 i = nI ((tu t).getD i 0)) → Q J) : C_X7_listTurns_3 e I L Q := by
  have hla : (ar t).length ≤ 64 := by rw [cn_fl]; exact cn_n _ _
  refine b_X7_listTurns_3 ?_
  refine lp_fl (l := ar t) rfl (N := 64) (p := arp t) (S := Nat → Nat → Int32) (T := fun i J => T_X7_listTurns_3_p7 e (nI i) J L Q) (fun a J => (∀ a, a ≠ 3 → a ≠ 8 → J a = I a) ∧ (∀ k, k ≠ 6 → J 3 k = I 3 k) ∧ J 3 6 = nI (cn (tB t) (8 * a)) ∧ (∀ i, i < cn (tB t) (8 * a) → J 8 i = nI ((tu t).getD i 0))) ?_ ?_ ?_ _ ⟨fun a h1 _ => up_n h1, fun k hk => by show va_up (I 3) 6 (nI 0) k = _; rw [up_n hk], rfl, fun i h => absurd h (Nat.not_lt_zero _)⟩
  · rintro a J ha hp ⟨i1, i2, i3, i4⟩
    have hcn : cn (tB t) (8 * (a + 1)) = cn (tB t) (8 * a) := by
      have h1 : ∀ z, z ≤ 8 → cn (tB t) (8 * a + z) = cn (tB t) (8 * a) := by
        intro z
        induction z with
        | zero => intro _; rfl
        | succ z ih =>
          intro hz
          rw [show 8 * a + (z + 1) = 8 * a + z + 1 from by omega, cn_0 (by rw [tB_8 (by omega), hp]; rfl)]
          exact ih (by omega)
      exact h1 8 (Nat.le_refl _)
    rw [hcn]
    exact ⟨i1, i2, i3, i4⟩
  · rintro a i J ha hp hi hia ⟨i1, i2, i3, i4⟩ hnext
    have e5 : J 3 5 = nI (ar t).length := by rw [i2 5 (by decide)]; exact h5
    have q1 : ((ar t).length ≤ i) = False := eq_false (by omega)
    have eA : J 7 i = nI a := by rw [i1 7 (by decide) (by decide), hA i hi, hia]
    refine b_X7_listTurns_3_p7 ?_
    simp (disch := omega) only [pk_mul, nI_add, ksub, kdv, kd8, kd64, kd2, kd3, km8, km64, kt8, ke8, ke64, kcl, kin, kle, klt, keq, up_s, up_n, up_u, true_and, and_true, false_implies, true_implies, not_false_eq_true, not_true_eq_false, e5, q1, eA]
    have hln := nb_len t (a % 8)
    refine lp_fl (l := nb t (a % 8)) rfl (N := 8) (p := nbp t (a % 8)) (S := Nat → Nat → Int32) (T := fun j J => T_X7_listTurns_3_p27 e (nI i) (nI (a % 8)) (nI j) J L Q) (fun z J => (∀ a, a ≠ 3 → a ≠ 8 → J a = I a) ∧ (∀ k, k ≠ 6 → J 3 k = I 3 k) ∧ J 3 6 = nI (cn (tB t) (8 * a + z)) ∧ (∀ i, i < cn (tB t) (8 * a + z) → J 8 i = nI ((tu t).getD i 0))) ?_ ?_ ?_ J ⟨i1, i2, i3, i4⟩
    · rintro z J2 hz hpz ⟨j1, j2, j3, j4⟩
      have hcn : cn (tB t) (8 * a + (z + 1)) = cn (tB t) (8 * a + z) := by
        rw [show 8 * a + (z + 1) = 8 * a + z + 1 from by omega, cn_0 (by rw [tB_8 hz, hpz, Bool.and_false])]
      rw [hcn]
      exact ⟨j1, j2, j3, j4⟩
    · rintro z j J2 hz hpz hj hjz ⟨j1, j2, j3, j4⟩ hnext2
      have e2 : J2 5 (a % 8) = nI (nb t (a % 8)).length := by rw [j1 5 (by decide) (by decide)]; exact hD _ (by omega)
      have e3 : J2 6 (8 * (a % 8) + j) = nI z := by rw [j1 6 (by decide) (by decide), hN _ (by omega) j hj, hjz]
      have e4 : J2 7 i = nI a := by rw [j1 7 (by decide) (by decide), hA i hi, hia]
      have q2 : ((nb t (a % 8)).length ≤ j) = False := eq_false (by omega)
      have hT : tB t (8 * a + z) = true := by rw [tB_8 hz, hp, hpz]; rfl
      have hb := cn_n (tB t) (8 * a + z)
      have hat := gd_at (p := tB t) (N := 512) (k := 8 * a + z) (by omega) hT
      have hc1 := cn_1 hT
      refine b_X7_listTurns_3_p27 ?_
      simp (disch := omega) only [pk_mul, nI_add, ksub, kdv, kd8, kd64, kd2, kd3, km8, km64, kt8, ke8, ke64, kcl, kin, kle, klt, keq, up_s, up_n, up_u, true_and, and_true, false_implies, true_implies, not_false_eq_true, not_true_eq_false, e2, q2, e3, e4, j3]
      refine hnext2 _ ⟨fun a' h1 h2 => by rw [up_n h1, up_n h2]; exact j1 a' h1 h2, fun k hk => ?_, ?_, fun i' hi' => ?_⟩
      · show va_up (J2 3) 6 _ k = _
        rw [up_n hk]; exact j2 k hk
      · show va_up (J2 3) 6 _ 6 = _
        rw [up_s, show 8 * a + (z + 1) = 8 * a + z + 1 from by omega, hc1]
        exact up_s
      · show va_up (J2 8) _ _ i' = _
        rw [show 8 * a + (z + 1) = 8 * a + z + 1 from by omega, hc1] at hi'
        by_cases he : i' = cn (tB t) (8 * a + z)
        · rw [he, up_s, hat]
        · rw [up_n he]; exact j4 i' (by omega)
    · rintro J2 ⟨j1, j2, j3, j4⟩
      have e2 : J2 5 (a % 8) = nI (nb t (a % 8)).length := by rw [j1 5 (by decide) (by decide)]; exact hD _ (by omega)
      have q2 : ((nb t (a % 8)).length ≤ (nb t (a % 8)).length) = True := eq_true (Nat.le_refl _)
      refine b_X7_listTurns_3_p27 ?_
      simp (disch := omega) only [pk_mul, nI_add, ksub, kdv, kd8, kd64, kd2, kd3, km8, km64, kt8, ke8, ke64, kcl, kin, kle, klt, keq, up_s, up_n, up_u, true_and, and_true, false_implies, true_implies, not_false_eq_true, not_true_eq_false, e2, q2]
      exact hnext J2 ⟨j1, j2, j3, j4⟩
  · rintro J ⟨i1, i2, i3, i4⟩
    have e5 : J 3 5 = nI (ar t).length := by rw [i2 5 (by decide)]; exact h5
    have q1 : ((ar t).length ≤ (ar t).length) = True := eq_true (Nat.le_refl _)
    refine b_X7_listTurns_3_p7 ?_
    simp (disch := omega) only [pk_mul, nI_add, ksub, kdv, kd8, kd64, kd2, kd3, km8, km64, kt8, ke8, ke64, kcl, kin, kle, klt, keq, up_s, up_n, up_u, true_and, and_true, false_implies, true_implies, not_false_eq_true, not_true_eq_false, e5, q1]
    exact hQ J i1 i2 (by rw [cn_fl]; exact i3) (fun i hi => i4 i (by rw [cn_fl] at hi; exact hi))
theorem c_settle_3 {e : am_V} {I : Nat → Nat → Int32} {L : Nat → Nat → Int64} {Q : (Nat → Nat → Int32) → Prop} {t : tw} (hS : ∀ k, k < 64 → I 4 k = nI (t 1 k)) (h9 : ∀ k, k < 64 → t 1 k ≤ 9) (hQ : ∀ J, frS3 I J → J 3 5 = nI (ar t).length → J 3 6 = nI (tu t).length → (∀ x, x < 8 → J 5 x = nI (nb t x).length) → (∀ x, x < 8 → ∀ i, i < (nb t x).length → J 6 (8 * x + i) = nI ((nb t x).getD i 0)) → (∀ i, i < (ar t).length → J 7 i = nI ((ar t).getD i 0)) → (∀ i, i < (tu t).length → J 8 i = nI ((tu t).getD i 0)) → Q J) : C_X7_settle_3 e I L Q := by
  refine b_X7_settle_3 ?_
  refine lp_up (n := 8) (S := Nat → Nat → Int32) (T := fun x J => T_X7_settle_3_p7 e (nI x) J L Q) (fun x J => frS3 I J ∧ J 3 5 = nI (cn (arp t) (8 * x)) ∧ (∀ x', x' < x → J 5 x' = nI (nb t x').length) ∧ (∀ x', x' < x → ∀ i, i < (nb t x').length → J 6 (8 * x' + i) = nI ((nb t x').getD i 0)) ∧ (∀ i, i < cn (arp t) (8 * x) → J 7 i = nI ((ar t).getD i 0))) ?_ ?_ 0 _ (Nat.zero_le _) ⟨⟨fun a h1 _ _ _ _ => up_n h1, fun k h1 h2 => by show va_up (I 3) 5 (nI 0) k = _; rw [up_n h1]⟩, rfl, fun x' h => absurd h (Nat.not_lt_zero _), fun x' h => absurd h (Nat.not_lt_zero _), fun i h => absurd h (Nat.not_lt_zero _)⟩
  · rintro x J hx ⟨i1, i2, i3, i4, i5⟩ hnext
    have q1 : (8 ≤ x) = False := eq_false (by omega)
    refine b_X7_settle_3_p7 ?_
    simp (disch := omega) only [pk_mul, nI_add, ksub, kdv, kd8, kd64, kd2, kd3, km8, km64, kt8, ke8, ke64, kcl, kin, kle, klt, keq, up_s, up_n, up_u, true_and, and_true, false_implies, true_implies, not_false_eq_true, not_true_eq_false, q1]
    refine lp_up (n := 8) (S := Nat → Nat → Int32) (T := fun y J => T_X7_settle_3_p22 e (nI x) (nI y) J L Q) (fun y J => frS3 I J ∧ J 3 5 = nI (cn (arp t) (8 * x + y)) ∧ (∀ x', x' < x → J 5 x' = nI (nb t x').length) ∧ (∀ x', x' < x → ∀ i, i < (nb t x').length → J 6 (8 * x' + i) = nI ((nb t x').getD i 0)) ∧ (∀ i, i < cn (arp t) (8 * x + y) → J 7 i = nI ((ar t).getD i 0)) ∧ J 5 x = nI (cn (nbp t x) y) ∧ (∀ i, i < cn (nbp t x) y → J 6 (8 * x + i) = nI ((nb t x).getD i 0))) ?_ ?_ 0 _ (Nat.zero_le _) ⟨⟨fun a h1 h2 h3 h4 h5 => by rw [up_n h2]; exact i1.1 a h1 h2 h3 h4 h5, fun k h1 h2 => i1.2 k h1 h2⟩, i2, fun x' h => by show va_up (J 5) x (nI 0) x' = _; rw [up_n (by omega)]; exact i3 x' h, fun x' h i hi => i4 x' h i hi, fun i hi => i5 i hi, by show va_up (J 5) x (nI 0) x = _; rw [up_s]; rfl, fun i h => absurd h (Nat.not_lt_zero _)⟩
    · rintro y J2 hy ⟨j1, j2, j3, j4, j5, j6, j7⟩ hnext2
      have q2 : (8 ≤ y) = False := eq_false (by omega)
      have e1 : J2 4 (8 * x + y) = nI (t 1 (8 * x + y)) := by rw [j1.1 4 (by decide) (by decide) (by decide) (by decide) (by decide)]; exact hS _ (by omega)
      have b1 := h9 (8 * x + y) (by omega)
      have b2 := cn_n (arp t) (8 * x + y)
      have b3 := cn_n (nbp t x) y
      refine b_X7_settle_3_p22 ?_
      simp (disch := omega) only [pk_mul, nI_add, ksub, kdv, kd8, kd64, kd2, kd3, km8, km64, kt8, ke8, ke64, kcl, kin, kle, klt, keq, up_s, up_n, up_u, true_and, and_true, false_implies, true_implies, not_false_eq_true, not_true_eq_false, q2, e1, j6, j2]
      refine ⟨fun h0 => hnext2 _ ?_, fun h0 => hnext2 _ ?_⟩
      · have c1 : cn (arp t) (8 * x + (y + 1)) = cn (arp t) (8 * x + y) := cn_0 (show arp t (8 * x + y) = false from decide_eq_false (by omega))
        have c2 : cn (nbp t x) (y + 1) = cn (nbp t x) y := cn_0 (show nbp t x y = false from decide_eq_false (by omega))
        rw [c1, c2]
        exact ⟨j1, j2, j3, j4, j5, j6, j7⟩
      · have p1 : arp t (8 * x + y) = true := decide_eq_true (by omega)
        have p2 : nbp t x y = true := decide_eq_true (by omega)
        have c1 : cn (arp t) (8 * x + (y + 1)) = cn (arp t) (8 * x + y) + 1 := cn_1 p1
        have c2 : cn (nbp t x) (y + 1) = cn (nbp t x) y + 1 := cn_1 p2
        have a1 := gd_at (p := arp t) (N := 64) (k := 8 * x + y) (by omega) p1
        have a2 := gd_at (p := nbp t x) (N := 8) (k := y) hy p2
        rw [c1, c2]
        refine ⟨⟨fun a h1 h2 h3 h4 h5 => ?_, fun k h1 h2 => ?_⟩, ?_, fun x' h => ?_, fun x' h i hi => ?_, fun i hi => ?_, ?_, fun i hi => ?_⟩
        · rw [up_n h1, up_n h4, up_n h2, up_n h3]; exact j1.1 a h1 h2 h3 h4 h5
        · show va_up (J2 3) 5 _ k = _
          rw [up_n h1]; exact j1.2 k h1 h2
        · rw [up_s]; exact up_s
        · show va_up (J2 5) x _ x' = _
          rw [up_n (by omega)]; exact j3 x' h
        · show va_up (J2 6) _ _ _ = _
          have := nb_len t x'
          rw [up_n (by omega)]; exact j4 x' h i hi
        · show va_up (J2 7) _ _ i = _
          by_cases he : i = cn (arp t) (8 * x + y)
          · rw [he, up_s, a1]
          · rw [up_n he]; exact j5 i (by omega)
        · exact up_s
        · show va_up (J2 6) _ _ _ = _
          by_cases he : i = cn (nbp t x) y
          · rw [he, up_s, a2]
          · rw [up_n (by omega)]; exact j7 i (by omega)
    · rintro J2 ⟨j1, j2, j3, j4, j5, j6, j7⟩
      have q2 : (8 ≤ 8) = True := eq_true (Nat.le_refl _)
      refine b_X7_settle_3_p22 ?_
      simp (disch := omega) only [pk_mul, nI_add, ksub, kdv, kd8, kd64, kd2, kd3, km8, km64, kt8, ke8, ke64, kcl, kin, kle, klt, keq, up_s, up_n, up_u, true_and, and_true, false_implies, true_implies, not_false_eq_true, not_true_eq_false, q2]
      refine hnext J2 ⟨j1, j2, fun x' h => ?_, fun x' h i hi => ?_, j5⟩
      · by_cases he : x' = x
        · rw [he, cn_fl]; exact j6
        · exact j3 x' (by omega)
      · by_cases he : x' = x
        · rw [he] at hi ⊢
          exact j7 i (by rw [cn_fl] at hi; exact hi)
        · exact j4 x' (by omega) i hi
  · rintro J ⟨i1, i2, i3, i4, i5⟩
    have q1 : (8 ≤ 8) = True := eq_true (Nat.le_refl _)
    refine b_X7_settle_3_p7 ?_
    simp (disch := omega) only [pk_mul, nI_add, ksub, kdv, kd8, kd64, kd2, kd3, km8, km64, kt8, ke8, ke64, kcl, kin, kle, klt, keq, up_s, up_n, up_u, true_and, and_true, false_implies, true_implies, not_false_eq_true, not_true_eq_false, q1]
    refine c_listTurns_3 (by rw [cn_fl]; exact i2) i3 i4 (fun i hi => i5 i (by rw [cn_fl] at hi; exact hi)) (fun K k1 k2 k3 k4 => ?_)
    refine hQ K ⟨fun a h1 h2 h3 h4 h5 => (k1 a h1 h5).trans (i1.1 a h1 h2 h3 h4 h5), fun k h1 h2 => (k2 k h2).trans (i1.2 k h1 h2)⟩ ?_ k3 (fun x hx => ?_) (fun x hx i hi => ?_) (fun i hi => ?_) k4
    · rw [k2 5 (by decide), cn_fl]; exact i2
    · rw [k1 5 (by decide) (by decide)]; exact i3 x hx
    · rw [k1 6 (by decide) (by decide)]; exact i4 x hx i hi
    · rw [k1 7 (by decide) (by decide)]; exact i5 i (by rw [cn_fl] at hi; exact hi)
def frS97 (I J : Nat → Nat → Int32) : Prop := (∀ a, a ≠ 97 → a ≠ 99 → a ≠ 100 → a ≠ 101 → a ≠ 102 → J a = I a) ∧ ∀ k, k ≠ 5 → k ≠ 6 → J 97 k = I 97 k
theorem c_listTurns_97 {e : am_V} {I : Nat → Nat → Int32} {L : Nat → Nat → Int64} {Q : (Nat → Nat → Int32) → Prop} {t : tw} (h5 : I 97 5 = nI (ar t).length) (hD : ∀ x, x < 8 → I 99 x = nI (nb t x).length) (hN : ∀ x, x < 8 → ∀ i, i < (nb t x).length → I 100 (8 * x + i) = nI ((nb t x).getD i 0)) (hA : ∀ i, i < (ar t).length → I 101 i = nI ((ar t).getD i 0)) (hQ : ∀ J, (∀ a, a ≠ 97 → a ≠ 102 → J a = I a) → (∀ k, k ≠ 6 → J 97 k = I 97 k) → J 97 6 = nI (tu t).length → (∀ i, i < (tu t).length → J 102 i = nI ((tu t).getD i 0)) → Q J) : C_X7_listTurns_97 e I L Q := by
  have hla : (ar t).length ≤ 64 := by rw [cn_fl]; exact cn_n _ _
  refine b_X7_listTurns_97 ?_
  refine lp_fl (l := ar t) rfl (N := 64) (p := arp t) (S := Nat → Nat → Int32) (T := fun i J => T_X7_listTurns_97_p7 e (nI i) J L Q) (fun a J => (∀ a, a ≠ 97 → a ≠ 102 → J a = I a) ∧ (∀ k, k ≠ 6 → J 97 k = I 97 k) ∧ J 97 6 = nI (cn (tB t) (8 * a)) ∧ (∀ i, i < cn (tB t) (8 * a) → J 102 i = nI ((tu t).getD i 0))) ?_ ?_ ?_ _ ⟨fun a h1 _ => up_n h1, fun k hk => by show va_up (I 97) 6 (nI 0) k = _; rw [up_n hk], rfl, fun i h => absurd h (Nat.not_lt_zero _)⟩
  · rintro a J ha hp ⟨i1, i2, i3, i4⟩
    have hcn : cn (tB t) (8 * (a + 1)) = cn (tB t) (8 * a) := by
      have h1 : ∀ z, z ≤ 8 → cn (tB t) (8 * a + z) = cn (tB t) (8 * a) := by
        intro z
        induction z with
        | zero => intro _; rfl
        | succ z ih =>
          intro hz
          rw [show 8 * a + (z + 1) = 8 * a + z + 1 from by omega, cn_0 (by rw [tB_8 (by omega), hp]; rfl)]
          exact ih (by omega)
      exact h1 8 (Nat.le_refl _)
    rw [hcn]
    exact ⟨i1, i2, i3, i4⟩
  · rintro a i J ha hp hi hia ⟨i1, i2, i3, i4⟩ hnext
    have e5 : J 97 5 = nI (ar t).length := by rw [i2 5 (by decide)]; exact h5
    have q1 : ((ar t).length ≤ i) = False := eq_false (by omega)
    have eA : J 101 i = nI a := by rw [i1 101 (by decide) (by decide), hA i hi, hia]
    refine b_X7_listTurns_97_p7 ?_
    simp (disch := omega) only [pk_mul, nI_add, ksub, kdv, kd8, kd64, kd2, kd3, km8, km64, kt8, ke8, ke64, kcl, kin, kle, klt, keq, up_s, up_n, up_u, true_and, and_true, false_implies, true_implies, not_false_eq_true, not_true_eq_false, e5, q1, eA]
    have hln := nb_len t (a % 8)
    refine lp_fl (l := nb t (a % 8)) rfl (N := 8) (p := nbp t (a % 8)) (S := Nat → Nat → Int32) (T := fun j J => T_X7_listTurns_97_p27 e (nI i) (nI (a % 8)) (nI j) J L Q) (fun z J => (∀ a, a ≠ 97 → a ≠ 102 → J a = I a) ∧ (∀ k, k ≠ 6 → J 97 k = I 97 k) ∧ J 97 6 = nI (cn (tB t) (8 * a + z)) ∧ (∀ i, i < cn (tB t) (8 * a + z) → J 102 i = nI ((tu t).getD i 0))) ?_ ?_ ?_ J ⟨i1, i2, i3, i4⟩
    · rintro z J2 hz hpz ⟨j1, j2, j3, j4⟩
      have hcn : cn (tB t) (8 * a + (z + 1)) = cn (tB t) (8 * a + z) := by
        rw [show 8 * a + (z + 1) = 8 * a + z + 1 from by omega, cn_0 (by rw [tB_8 hz, hpz, Bool.and_false])]
      rw [hcn]
      exact ⟨j1, j2, j3, j4⟩
    · rintro z j J2 hz hpz hj hjz ⟨j1, j2, j3, j4⟩ hnext2
      have e2 : J2 99 (a % 8) = nI (nb t (a % 8)).length := by rw [j1 99 (by decide) (by decide)]; exact hD _ (by omega)
      have e3 : J2 100 (8 * (a % 8) + j) = nI z := by rw [j1 100 (by decide) (by decide), hN _ (by omega) j hj, hjz]
      have e4 : J2 101 i = nI a := by rw [j1 101 (by decide) (by decide), hA i hi, hia]
      have q2 : ((nb t (a % 8)).length ≤ j) = False := eq_false (by omega)
      have hT : tB t (8 * a + z) = true := by rw [tB_8 hz, hp, hpz]; rfl
      have hb := cn_n (tB t) (8 * a + z)
      have hat := gd_at (p := tB t) (N := 512) (k := 8 * a + z) (by omega) hT
      have hc1 := cn_1 hT
      refine b_X7_listTurns_97_p27 ?_
      simp (disch := omega) only [pk_mul, nI_add, ksub, kdv, kd8, kd64, kd2, kd3, km8, km64, kt8, ke8, ke64, kcl, kin, kle, klt, keq, up_s, up_n, up_u, true_and, and_true, false_implies, true_implies, not_false_eq_true, not_true_eq_false, e2, q2, e3, e4, j3]
      refine hnext2 _ ⟨fun a' h1 h2 => by rw [up_n h1, up_n h2]; exact j1 a' h1 h2, fun k hk => ?_, ?_, fun i' hi' => ?_⟩
      · show va_up (J2 97) 6 _ k = _
        rw [up_n hk]; exact j2 k hk
      · show va_up (J2 97) 6 _ 6 = _
        rw [up_s, show 8 * a + (z + 1) = 8 * a + z + 1 from by omega, hc1]
        exact up_s
      · show va_up (J2 102) _ _ i' = _
        rw [show 8 * a + (z + 1) = 8 * a + z + 1 from by omega, hc1] at hi'
        by_cases he : i' = cn (tB t) (8 * a + z)
        · rw [he, up_s, hat]
        · rw [up_n he]; exact j4 i' (by omega)
    · rintro J2 ⟨j1, j2, j3, j4⟩
      have e2 : J2 99 (a % 8) = nI (nb t (a % 8)).length := by rw [j1 99 (by decide) (by decide)]; exact hD _ (by omega)
      have q2 : ((nb t (a % 8)).length ≤ (nb t (a % 8)).length) = True := eq_true (Nat.le_refl _)
      refine b_X7_listTurns_97_p27 ?_
      simp (disch := omega) only [pk_mul, nI_add, ksub, kdv, kd8, kd64, kd2, kd3, km8, km64, kt8, ke8, ke64, kcl, kin, kle, klt, keq, up_s, up_n, up_u, true_and, and_true, false_implies, true_implies, not_false_eq_true, not_true_eq_false, e2, q2]
      exact hnext J2 ⟨j1, j2, j3, j4⟩
  · rintro J ⟨i1, i2, i3, i4⟩
    have e5 : J 97 5 = nI (ar t).length := by rw [i2 5 (by decide)]; exact h5
    have q1 : ((ar t).length ≤ (ar t).length) = True := eq_true (Nat.le_refl _)
    refine b_X7_listTurns_97_p7 ?_
    simp (disch := omega) only [pk_mul, nI_add, ksub, kdv, kd8, kd64, kd2, kd3, km8, km64, kt8, ke8, ke64, kcl, kin, kle, klt, keq, up_s, up_n, up_u, true_and, and_true, false_implies, true_implies, not_false_eq_true, not_true_eq_false, e5, q1]
    exact hQ J i1 i2 (by rw [cn_fl]; exact i3) (fun i hi => i4 i (by rw [cn_fl] at hi; exact hi))
theorem c_settle_97 {e : am_V} {I : Nat → Nat → Int32} {L : Nat → Nat → Int64} {Q : (Nat → Nat → Int32) → Prop} {t : tw} (hS : ∀ k, k < 64 → I 98 k = nI (t 1 k)) (h9 : ∀ k, k < 64 → t 1 k ≤ 9) (hQ : ∀ J, frS97 I J → J 97 5 = nI (ar t).length → J 97 6 = nI (tu t).length → (∀ x, x < 8 → J 99 x = nI (nb t x).length) → (∀ x, x < 8 → ∀ i, i < (nb t x).length → J 100 (8 * x + i) = nI ((nb t x).getD i 0)) → (∀ i, i < (ar t).length → J 101 i = nI ((ar t).getD i 0)) → (∀ i, i < (tu t).length → J 102 i = nI ((tu t).getD i 0)) → Q J) : C_X7_settle_97 e I L Q := by
  refine b_X7_settle_97 ?_
  refine lp_up (n := 8) (S := Nat → Nat → Int32) (T := fun x J => T_X7_settle_97_p7 e (nI x) J L Q) (fun x J => frS97 I J ∧ J 97 5 = nI (cn (arp t) (8 * x)) ∧ (∀ x', x' < x → J 99 x' = nI (nb t x').length) ∧ (∀ x', x' < x → ∀ i, i < (nb t x').length → J 100 (8 * x' + i) = nI ((nb t x').getD i 0)) ∧ (∀ i, i < cn (arp t) (8 * x) → J 101 i = nI ((ar t).getD i 0))) ?_ ?_ 0 _ (Nat.zero_le _) ⟨⟨fun a h1 _ _ _ _ => up_n h1, fun k h1 h2 => by show va_up (I 97) 5 (nI 0) k = _; rw [up_n h1]⟩, rfl, fun x' h => absurd h (Nat.not_lt_zero _), fun x' h => absurd h (Nat.not_lt_zero _), fun i h => absurd h (Nat.not_lt_zero _)⟩
  · rintro x J hx ⟨i1, i2, i3, i4, i5⟩ hnext
    have q1 : (8 ≤ x) = False := eq_false (by omega)
    refine b_X7_settle_97_p7 ?_
    simp (disch := omega) only [pk_mul, nI_add, ksub, kdv, kd8, kd64, kd2, kd3, km8, km64, kt8, ke8, ke64, kcl, kin, kle, klt, keq, up_s, up_n, up_u, true_and, and_true, false_implies, true_implies, not_false_eq_true, not_true_eq_false, q1]
    refine lp_up (n := 8) (S := Nat → Nat → Int32) (T := fun y J => T_X7_settle_97_p22 e (nI x) (nI y) J L Q) (fun y J => frS97 I J ∧ J 97 5 = nI (cn (arp t) (8 * x + y)) ∧ (∀ x', x' < x → J 99 x' = nI (nb t x').length) ∧ (∀ x', x' < x → ∀ i, i < (nb t x').length → J 100 (8 * x' + i) = nI ((nb t x').getD i 0)) ∧ (∀ i, i < cn (arp t) (8 * x + y) → J 101 i = nI ((ar t).getD i 0)) ∧ J 99 x = nI (cn (nbp t x) y) ∧ (∀ i, i < cn (nbp t x) y → J 100 (8 * x + i) = nI ((nb t x).getD i 0))) ?_ ?_ 0 _ (Nat.zero_le _) ⟨⟨fun a h1 h2 h3 h4 h5 => by rw [up_n h2]; exact i1.1 a h1 h2 h3 h4 h5, fun k h1 h2 => i1.2 k h1 h2⟩, i2, fun x' h => by show va_up (J 99) x (nI 0) x' = _; rw [up_n (by omega)]; exact i3 x' h, fun x' h i hi => i4 x' h i hi, fun i hi => i5 i hi, by show va_up (J 99) x (nI 0) x = _; rw [up_s]; rfl, fun i h => absurd h (Nat.not_lt_zero _)⟩
    · rintro y J2 hy ⟨j1, j2, j3, j4, j5, j6, j7⟩ hnext2
      have q2 : (8 ≤ y) = False := eq_false (by omega)
      have e1 : J2 98 (8 * x + y) = nI (t 1 (8 * x + y)) := by rw [j1.1 98 (by decide) (by decide) (by decide) (by decide) (by decide)]; exact hS _ (by omega)
      have b1 := h9 (8 * x + y) (by omega)
      have b2 := cn_n (arp t) (8 * x + y)
      have b3 := cn_n (nbp t x) y
      refine b_X7_settle_97_p22 ?_
      simp (disch := omega) only [pk_mul, nI_add, ksub, kdv, kd8, kd64, kd2, kd3, km8, km64, kt8, ke8, ke64, kcl, kin, kle, klt, keq, up_s, up_n, up_u, true_and, and_true, false_implies, true_implies, not_false_eq_true, not_true_eq_false, q2, e1, j6, j2]
      refine ⟨fun h0 => hnext2 _ ?_, fun h0 => hnext2 _ ?_⟩
      · have c1 : cn (arp t) (8 * x + (y + 1)) = cn (arp t) (8 * x + y) := cn_0 (show arp t (8 * x + y) = false from decide_eq_false (by omega))
        have c2 : cn (nbp t x) (y + 1) = cn (nbp t x) y := cn_0 (show nbp t x y = false from decide_eq_false (by omega))
        rw [c1, c2]
        exact ⟨j1, j2, j3, j4, j5, j6, j7⟩
      · have p1 : arp t (8 * x + y) = true := decide_eq_true (by omega)
        have p2 : nbp t x y = true := decide_eq_true (by omega)
        have c1 : cn (arp t) (8 * x + (y + 1)) = cn (arp t) (8 * x + y) + 1 := cn_1 p1
        have c2 : cn (nbp t x) (y + 1) = cn (nbp t x) y + 1 := cn_1 p2
        have a1 := gd_at (p := arp t) (N := 64) (k := 8 * x + y) (by omega) p1
        have a2 := gd_at (p := nbp t x) (N := 8) (k := y) hy p2
        rw [c1, c2]
        refine ⟨⟨fun a h1 h2 h3 h4 h5 => ?_, fun k h1 h2 => ?_⟩, ?_, fun x' h => ?_, fun x' h i hi => ?_, fun i hi => ?_, ?_, fun i hi => ?_⟩
        · rw [up_n h1, up_n h4, up_n h2, up_n h3]; exact j1.1 a h1 h2 h3 h4 h5
        · show va_up (J2 97) 5 _ k = _
          rw [up_n h1]; exact j1.2 k h1 h2
        · rw [up_s]; exact up_s
        · show va_up (J2 99) x _ x' = _
          rw [up_n (by omega)]; exact j3 x' h
        · show va_up (J2 100) _ _ _ = _
          have := nb_len t x'
          rw [up_n (by omega)]; exact j4 x' h i hi
        · show va_up (J2 101) _ _ i = _
          by_cases he : i = cn (arp t) (8 * x + y)
          · rw [he, up_s, a1]
          · rw [up_n he]; exact j5 i (by omega)
        · exact up_s
        · show va_up (J2 100) _ _ _ = _
          by_cases he : i = cn (nbp t x) y
          · rw [he, up_s, a2]
          · rw [up_n (by omega)]; exact j7 i (by omega)
    · rintro J2 ⟨j1, j2, j3, j4, j5, j6, j7⟩
      have q2 : (8 ≤ 8) = True := eq_true (Nat.le_refl _)
      refine b_X7_settle_97_p22 ?_
      simp (disch := omega) only [pk_mul, nI_add, ksub, kdv, kd8, kd64, kd2, kd3, km8, km64, kt8, ke8, ke64, kcl, kin, kle, klt, keq, up_s, up_n, up_u, true_and, and_true, false_implies, true_implies, not_false_eq_true, not_true_eq_false, q2]
      refine hnext J2 ⟨j1, j2, fun x' h => ?_, fun x' h i hi => ?_, j5⟩
      · by_cases he : x' = x
        · rw [he, cn_fl]; exact j6
        · exact j3 x' (by omega)
      · by_cases he : x' = x
        · rw [he] at hi ⊢
          exact j7 i (by rw [cn_fl] at hi; exact hi)
        · exact j4 x' (by omega) i hi
  · rintro J ⟨i1, i2, i3, i4, i5⟩
    have q1 : (8 ≤ 8) = True := eq_true (Nat.le_refl _)
    refine b_X7_settle_97_p7 ?_
    simp (disch := omega) only [pk_mul, nI_add, ksub, kdv, kd8, kd64, kd2, kd3, km8, km64, kt8, ke8, ke64, kcl, kin, kle, klt, keq, up_s, up_n, up_u, true_and, and_true, false_implies, true_implies, not_false_eq_true, not_true_eq_false, q1]
    refine c_listTurns_97 (by rw [cn_fl]; exact i2) i3 i4 (fun i hi => i5 i (by rw [cn_fl] at hi; exact hi)) (fun K k1 k2 k3 k4 => ?_)
    refine hQ K ⟨fun a h1 h2 h3 h4 h5 => (k1 a h1 h5).trans (i1.1 a h1 h2 h3 h4 h5), fun k h1 h2 => (k2 k h2).trans (i1.2 k h1 h2)⟩ ?_ k3 (fun x hx => ?_) (fun x hx i hi => ?_) (fun i hi => ?_) k4
    · rw [k2 5 (by decide), cn_fl]; exact i2
    · rw [k1 99 (by decide) (by decide)]; exact i3 x hx
    · rw [k1 100 (by decide) (by decide)]; exact i4 x hx i hi
    · rw [k1 101 (by decide) (by decide)]; exact i5 i (by rw [cn_fl] at hi; exact hi)
def frS109 (I J : Nat → Nat → Int32) : Prop := (∀ a, a ≠ 109 → a ≠ 111 → a ≠ 112 → a ≠ 113 → a ≠ 114 → J a = I a) ∧ ∀ k, k ≠ 5 → k ≠ 6 → J 109 k = I 109 k
theorem c_listTurns_109 {e : am_V} {I : Nat → Nat → Int32} {L : Nat → Nat → Int64} {Q : (Nat → Nat → Int32) → Prop} {t : tw} (h5 : I 109 5 = nI (ar t).length) (hD : ∀ x, x < 8 → I 111 x = nI (nb t x).length) (hN : ∀ x, x < 8 → ∀ i, i < (nb t x).length → I 112 (8 * x + i) = nI ((nb t x).getD i 0)) (hA : ∀ i, i < (ar t).length → I 113 i = nI ((ar t).getD i 0)) (hQ : ∀ J, (∀ a, a ≠ 109 → a ≠ 114 → J a = I a) → (∀ k, k ≠ 6 → J 109 k = I 109 k) → J 109 6 = nI (tu t).length → (∀ i, i < (tu t).length → J 114 i = nI ((tu t).getD i 0)) → Q J) : C_X7_listTurns_109 e I L Q := by
  have hla : (ar t).length ≤ 64 := by rw [cn_fl]; exact cn_n _ _
  refine b_X7_listTurns_109 ?_
  refine lp_fl (l := ar t) rfl (N := 64) (p := arp t) (S := Nat → Nat → Int32) (T := fun i J => T_X7_listTurns_109_p7 e (nI i) J L Q) (fun a J => (∀ a, a ≠ 109 → a ≠ 114 → J a = I a) ∧ (∀ k, k ≠ 6 → J 109 k = I 109 k) ∧ J 109 6 = nI (cn (tB t) (8 * a)) ∧ (∀ i, i < cn (tB t) (8 * a) → J 114 i = nI ((tu t).getD i 0))) ?_ ?_ ?_ _ ⟨fun a h1 _ => up_n h1, fun k hk => by show va_up (I 109) 6 (nI 0) k = _; rw [up_n hk], rfl, fun i h => absurd h (Nat.not_lt_zero _)⟩
  · rintro a J ha hp ⟨i1, i2, i3, i4⟩
    have hcn : cn (tB t) (8 * (a + 1)) = cn (tB t) (8 * a) := by
      have h1 : ∀ z, z ≤ 8 → cn (tB t) (8 * a + z) = cn (tB t) (8 * a) := by
        intro z
        induction z with
        | zero => intro _; rfl
        | succ z ih =>
          intro hz
          rw [show 8 * a + (z + 1) = 8 * a + z + 1 from by omega, cn_0 (by rw [tB_8 (by omega), hp]; rfl)]
          exact ih (by omega)
      exact h1 8 (Nat.le_refl _)
    rw [hcn]
    exact ⟨i1, i2, i3, i4⟩
  · rintro a i J ha hp hi hia ⟨i1, i2, i3, i4⟩ hnext
    have e5 : J 109 5 = nI (ar t).length := by rw [i2 5 (by decide)]; exact h5
    have q1 : ((ar t).length ≤ i) = False := eq_false (by omega)
    have eA : J 113 i = nI a := by rw [i1 113 (by decide) (by decide), hA i hi, hia]
    refine b_X7_listTurns_109_p7 ?_
    simp (disch := omega) only [pk_mul, nI_add, ksub, kdv, kd8, kd64, kd2, kd3, km8, km64, kt8, ke8, ke64, kcl, kin, kle, klt, keq, up_s, up_n, up_u, true_and, and_true, false_implies, true_implies, not_false_eq_true, not_true_eq_false, e5, q1, eA]
    have hln := nb_len t (a % 8)
    refine lp_fl (l := nb t (a % 8)) rfl (N := 8) (p := nbp t (a % 8)) (S := Nat → Nat → Int32) (T := fun j J => T_X7_listTurns_109_p27 e (nI i) (nI (a % 8)) (nI j) J L Q) (fun z J => (∀ a, a ≠ 109 → a ≠ 114 → J a = I a) ∧ (∀ k, k ≠ 6 → J 109 k = I 109 k) ∧ J 109 6 = nI (cn (tB t) (8 * a + z)) ∧ (∀ i, i < cn (tB t) (8 * a + z) → J 114 i = nI ((tu t).getD i 0))) ?_ ?_ ?_ J ⟨i1, i2, i3, i4⟩
    · rintro z J2 hz hpz ⟨j1, j2, j3, j4⟩
      have hcn : cn (tB t) (8 * a + (z + 1)) = cn (tB t) (8 * a + z) := by
        rw [show 8 * a + (z + 1) = 8 * a + z + 1 from by omega, cn_0 (by rw [tB_8 hz, hpz, Bool.and_false])]
      rw [hcn]
      exact ⟨j1, j2, j3, j4⟩
    · rintro z j J2 hz hpz hj hjz ⟨j1, j2, j3, j4⟩ hnext2
      have e2 : J2 111 (a % 8) = nI (nb t (a % 8)).length := by rw [j1 111 (by decide) (by decide)]; exact hD _ (by omega)
      have e3 : J2 112 (8 * (a % 8) + j) = nI z := by rw [j1 112 (by decide) (by decide), hN _ (by omega) j hj, hjz]
      have e4 : J2 113 i = nI a := by rw [j1 113 (by decide) (by decide), hA i hi, hia]
      have q2 : ((nb t (a % 8)).length ≤ j) = False := eq_false (by omega)
      have hT : tB t (8 * a + z) = true := by rw [tB_8 hz, hp, hpz]; rfl
      have hb := cn_n (tB t) (8 * a + z)
      have hat := gd_at (p := tB t) (N := 512) (k := 8 * a + z) (by omega) hT
      have hc1 := cn_1 hT
      refine b_X7_listTurns_109_p27 ?_
      simp (disch := omega) only [pk_mul, nI_add, ksub, kdv, kd8, kd64, kd2, kd3, km8, km64, kt8, ke8, ke64, kcl, kin, kle, klt, keq, up_s, up_n, up_u, true_and, and_true, false_implies, true_implies, not_false_eq_true, not_true_eq_false, e2, q2, e3, e4, j3]
      refine hnext2 _ ⟨fun a' h1 h2 => by rw [up_n h1, up_n h2]; exact j1 a' h1 h2, fun k hk => ?_, ?_, fun i' hi' => ?_⟩
      · show va_up (J2 109) 6 _ k = _
        rw [up_n hk]; exact j2 k hk
      · show va_up (J2 109) 6 _ 6 = _
        rw [up_s, show 8 * a + (z + 1) = 8 * a + z + 1 from by omega, hc1]
        exact up_s
      · show va_up (J2 114) _ _ i' = _
        rw [show 8 * a + (z + 1) = 8 * a + z + 1 from by omega, hc1] at hi'
        by_cases he : i' = cn (tB t) (8 * a + z)
        · rw [he, up_s, hat]
        · rw [up_n he]; exact j4 i' (by omega)
    · rintro J2 ⟨j1, j2, j3, j4⟩
      have e2 : J2 111 (a % 8) = nI (nb t (a % 8)).length := by rw [j1 111 (by decide) (by decide)]; exact hD _ (by omega)
      have q2 : ((nb t (a % 8)).length ≤ (nb t (a % 8)).length) = True := eq_true (Nat.le_refl _)
      refine b_X7_listTurns_109_p27 ?_
      simp (disch := omega) only [pk_mul, nI_add, ksub, kdv, kd8, kd64, kd2, kd3, km8, km64, kt8, ke8, ke64, kcl, kin, kle, klt, keq, up_s, up_n, up_u, true_and, and_true, false_implies, true_implies, not_false_eq_true, not_true_eq_false, e2, q2]
      exact hnext J2 ⟨j1, j2, j3, j4⟩
  · rintro J ⟨i1, i2, i3, i4⟩
    have e5 : J 109 5 = nI (ar t).length := by rw [i2 5 (by decide)]; exact h5
    have q1 : ((ar t).length ≤ (ar t).length) = True := eq_true (Nat.le_refl _)
    refine b_X7_listTurns_109_p7 ?_
    simp (disch := omega) only [pk_mul, nI_add, ksub, kdv, kd8, kd64, kd2, kd3, km8, km64, kt8, ke8, ke64, kcl, kin, kle, klt, keq, up_s, up_n, up_u, true_and, and_true, false_implies, true_implies, not_false_eq_true, not_true_eq_false, e5, q1]
    exact hQ J i1 i2 (by rw [cn_fl]; exact i3) (fun i hi => i4 i (by rw [cn_fl] at hi; exact hi))
theorem c_settle_109 {e : am_V} {I : Nat → Nat → Int32} {L : Nat → Nat → Int64} {Q : (Nat → Nat → Int32) → Prop} {t : tw} (hS : ∀ k, k < 64 → I 110 k = nI (t 1 k)) (h9 : ∀ k, k < 64 → t 1 k ≤ 9) (hQ : ∀ J, frS109 I J → J 109 5 = nI (ar t).length → J 109 6 = nI (tu t).length → (∀ x, x < 8 → J 111 x = nI (nb t x).length) → (∀ x, x < 8 → ∀ i, i < (nb t x).length → J 112 (8 * x + i) = nI ((nb t x).getD i 0)) → (∀ i, i < (ar t).length → J 113 i = nI ((ar t).getD i 0)) → (∀ i, i < (tu t).length → J 114 i = nI ((tu t).getD i 0)) → Q J) : C_X7_settle_109 e I L Q := by
  refine b_X7_settle_109 ?_
  refine lp_up (n := 8) (S := Nat → Nat → Int32) (T := fun x J => T_X7_settle_109_p7 e (nI x) J L Q) (fun x J => frS109 I J ∧ J 109 5 = nI (cn (arp t) (8 * x)) ∧ (∀ x', x' < x → J 111 x' = nI (nb t x').length) ∧ (∀ x', x' < x → ∀ i, i < (nb t x').length → J 112 (8 * x' + i) = nI ((nb t x').getD i 0)) ∧ (∀ i, i < cn (arp t) (8 * x) → J 113 i = nI ((ar t).getD i 0))) ?_ ?_ 0 _ (Nat.zero_le _) ⟨⟨fun a h1 _ _ _ _ => up_n h1, fun k h1 h2 => by show va_up (I 109) 5 (nI 0) k = _; rw [up_n h1]⟩, rfl, fun x' h => absurd h (Nat.not_lt_zero _), fun x' h => absurd h (Nat.not_lt_zero _), fun i h => absurd h (Nat.not_lt_zero _)⟩
  · rintro x J hx ⟨i1, i2, i3, i4, i5⟩ hnext
    have q1 : (8 ≤ x) = False := eq_false (by omega)
    refine b_X7_settle_109_p7 ?_
    simp (disch := omega) only [pk_mul, nI_add, ksub, kdv, kd8, kd64, kd2, kd3, km8, km64, kt8, ke8, ke64, kcl, kin, kle, klt, keq, up_s, up_n, up_u, true_and, and_true, false_implies, true_implies, not_false_eq_true, not_true_eq_false, q1]
    refine lp_up (n := 8) (S := Nat → Nat → Int32) (T := fun y J => T_X7_settle_109_p22 e (nI x) (nI y) J L Q) (fun y J => frS109 I J ∧ J 109 5 = nI (cn (arp t) (8 * x + y)) ∧ (∀ x', x' < x → J 111 x' = nI (nb t x').length) ∧ (∀ x', x' < x → ∀ i, i < (nb t x').length → J 112 (8 * x' + i) = nI ((nb t x').getD i 0)) ∧ (∀ i, i < cn (arp t) (8 * x + y) → J 113 i = nI ((ar t).getD i 0)) ∧ J 111 x = nI (cn (nbp t x) y) ∧ (∀ i, i < cn (nbp t x) y → J 112 (8 * x + i) = nI ((nb t x).getD i 0))) ?_ ?_ 0 _ (Nat.zero_le _) ⟨⟨fun a h1 h2 h3 h4 h5 => by rw [up_n h2]; exact i1.1 a h1 h2 h3 h4 h5, fun k h1 h2 => i1.2 k h1 h2⟩, i2, fun x' h => by show va_up (J 111) x (nI 0) x' = _; rw [up_n (by omega)]; exact i3 x' h, fun x' h i hi => i4 x' h i hi, fun i hi => i5 i hi, by show va_up (J 111) x (nI 0) x = _; rw [up_s]; rfl, fun i h => absurd h (Nat.not_lt_zero _)⟩
    · rintro y J2 hy ⟨j1, j2, j3, j4, j5, j6, j7⟩ hnext2
      have q2 : (8 ≤ y) = False := eq_false (by omega)
      have e1 : J2 110 (8 * x + y) = nI (t 1 (8 * x + y)) := by rw [j1.1 110 (by decide) (by decide) (by decide) (by decide) (by decide)]; exact hS _ (by omega)
      have b1 := h9 (8 * x + y) (by omega)
      have b2 := cn_n (arp t) (8 * x + y)
      have b3 := cn_n (nbp t x) y
      refine b_X7_settle_109_p22 ?_
      simp (disch := omega) only [pk_mul, nI_add, ksub, kdv, kd8, kd64, kd2, kd3, km8, km64, kt8, ke8, ke64, kcl, kin, kle, klt, keq, up_s, up_n, up_u, true_and, and_true, false_implies, true_implies, not_false_eq_true, not_true_eq_false, q2, e1, j6, j2]
      refine ⟨fun h0 => hnext2 _ ?_, fun h0 => hnext2 _ ?_⟩
      · have c1 : cn (arp t) (8 * x + (y + 1)) = cn (arp t) (8 * x + y) := cn_0 (show arp t (8 * x + y) = false from decide_eq_false (by omega))
        have c2 : cn (nbp t x) (y + 1) = cn (nbp t x) y := cn_0 (show nbp t x y = false from decide_eq_false (by omega))
        rw [c1, c2]
        exact ⟨j1, j2, j3, j4, j5, j6, j7⟩
      · have p1 : arp t (8 * x + y) = true := decide_eq_true (by omega)
        have p2 : nbp t x y = true := decide_eq_true (by omega)
        have c1 : cn (arp t) (8 * x + (y + 1)) = cn (arp t) (8 * x + y) + 1 := cn_1 p1
        have c2 : cn (nbp t x) (y + 1) = cn (nbp t x) y + 1 := cn_1 p2
        have a1 := gd_at (p := arp t) (N := 64) (k := 8 * x + y) (by omega) p1
        have a2 := gd_at (p := nbp t x) (N := 8) (k := y) hy p2
        rw [c1, c2]
        refine ⟨⟨fun a h1 h2 h3 h4 h5 => ?_, fun k h1 h2 => ?_⟩, ?_, fun x' h => ?_, fun x' h i hi => ?_, fun i hi => ?_, ?_, fun i hi => ?_⟩
        · rw [up_n h1, up_n h4, up_n h2, up_n h3]; exact j1.1 a h1 h2 h3 h4 h5
        · show va_up (J2 109) 5 _ k = _
          rw [up_n h1]; exact j1.2 k h1 h2
        · rw [up_s]; exact up_s
        · show va_up (J2 111) x _ x' = _
          rw [up_n (by omega)]; exact j3 x' h
        · show va_up (J2 112) _ _ _ = _
          have := nb_len t x'
          rw [up_n (by omega)]; exact j4 x' h i hi
        · show va_up (J2 113) _ _ i = _
          by_cases he : i = cn (arp t) (8 * x + y)
          · rw [he, up_s, a1]
          · rw [up_n he]; exact j5 i (by omega)
        · exact up_s
        · show va_up (J2 112) _ _ _ = _
          by_cases he : i = cn (nbp t x) y
          · rw [he, up_s, a2]
          · rw [up_n (by omega)]; exact j7 i (by omega)
    · rintro J2 ⟨j1, j2, j3, j4, j5, j6, j7⟩
      have q2 : (8 ≤ 8) = True := eq_true (Nat.le_refl _)
      refine b_X7_settle_109_p22 ?_
      simp (disch := omega) only [pk_mul, nI_add, ksub, kdv, kd8, kd64, kd2, kd3, km8, km64, kt8, ke8, ke64, kcl, kin, kle, klt, keq, up_s, up_n, up_u, true_and, and_true, false_implies, true_implies, not_false_eq_true, not_true_eq_false, q2]
      refine hnext J2 ⟨j1, j2, fun x' h => ?_, fun x' h i hi => ?_, j5⟩
      · by_cases he : x' = x
        · rw [he, cn_fl]; exact j6
        · exact j3 x' (by omega)
      · by_cases he : x' = x
        · rw [he] at hi ⊢
          exact j7 i (by rw [cn_fl] at hi; exact hi)
        · exact j4 x' (by omega) i hi
  · rintro J ⟨i1, i2, i3, i4, i5⟩
    have q1 : (8 ≤ 8) = True := eq_true (Nat.le_refl _)
    refine b_X7_settle_109_p7 ?_
    simp (disch := omega) only [pk_mul, nI_add, ksub, kdv, kd8, kd64, kd2, kd3, km8, km64, kt8, ke8, ke64, kcl, kin, kle, klt, keq, up_s, up_n, up_u, true_and, and_true, false_implies, true_implies, not_false_eq_true, not_true_eq_false, q1]
    refine c_listTurns_109 (by rw [cn_fl]; exact i2) i3 i4 (fun i hi => i5 i (by rw [cn_fl] at hi; exact hi)) (fun K k1 k2 k3 k4 => ?_)
    refine hQ K ⟨fun a h1 h2 h3 h4 h5 => (k1 a h1 h5).trans (i1.1 a h1 h2 h3 h4 h5), fun k h1 h2 => (k2 k h2).trans (i1.2 k h1 h2)⟩ ?_ k3 (fun x hx => ?_) (fun x hx i hi => ?_) (fun i hi => ?_) k4
    · rw [k2 5 (by decide), cn_fl]; exact i2
    · rw [k1 111 (by decide) (by decide)]; exact i3 x hx
    · rw [k1 112 (by decide) (by decide)]; exact i4 x hx i hi
    · rw [k1 113 (by decide) (by decide)]; exact i5 i (by rw [cn_fl] at hi; exact hi)
def frS121 (I J : Nat → Nat → Int32) : Prop := (∀ a, a ≠ 121 → a ≠ 123 → a ≠ 124 → a ≠ 125 → a ≠ 126 → J a = I a) ∧ ∀ k, k ≠ 5 → k ≠ 6 → J 121 k = I 121 k
theorem c_listTurns_121 {e : am_V} {I : Nat → Nat → Int32} {L : Nat → Nat → Int64} {Q : (Nat → Nat → Int32) → Prop} {t : tw} (h5 : I 121 5 = nI (ar t).length) (hD : ∀ x, x < 8 → I 123 x = nI (nb t x).length) (hN : ∀ x, x < 8 → ∀ i, i < (nb t x).length → I 124 (8 * x + i) = nI ((nb t x).getD i 0)) (hA : ∀ i, i < (ar t).length → I 125 i = nI ((ar t).getD i 0)) (hQ : ∀ J, (∀ a, a ≠ 121 → a ≠ 126 → J a = I a) → (∀ k, k ≠ 6 → J 121 k = I 121 k) → J 121 6 = nI (tu t).length → (∀ i, i < (tu t).length → J 126 i = nI ((tu t).getD i 0)) → Q J) : C_X7_listTurns_121 e I L Q := by
  have hla : (ar t).length ≤ 64 := by rw [cn_fl]; exact cn_n _ _
  refine b_X7_listTurns_121 ?_
  refine lp_fl (l := ar t) rfl (N := 64) (p := arp t) (S := Nat → Nat → Int32) (T := fun i J => T_X7_listTurns_121_p7 e (nI i) J L Q) (fun a J => (∀ a, a ≠ 121 → a ≠ 126 → J a = I a) ∧ (∀ k, k ≠ 6 → J 121 k = I 121 k) ∧ J 121 6 = nI (cn (tB t) (8 * a)) ∧ (∀ i, i < cn (tB t) (8 * a) → J 126 i = nI ((tu t).getD i 0))) ?_ ?_ ?_ _ ⟨fun a h1 _ => up_n h1, fun k hk => by show va_up (I 121) 6 (nI 0) k = _; rw [up_n hk], rfl, fun i h => absurd h (Nat.not_lt_zero _)⟩
  · rintro a J ha hp ⟨i1, i2, i3, i4⟩
    have hcn : cn (tB t) (8 * (a + 1)) = cn (tB t) (8 * a) := by
      have h1 : ∀ z, z ≤ 8 → cn (tB t) (8 * a + z) = cn (tB t) (8 * a) := by
        intro z
        induction z with
        | zero => intro _; rfl
        | succ z ih =>
          intro hz
          rw [show 8 * a + (z + 1) = 8 * a + z + 1 from by omega, cn_0 (by rw [tB_8 (by omega), hp]; rfl)]
          exact ih (by omega)
      exact h1 8 (Nat.le_refl _)
    rw [hcn]
    exact ⟨i1, i2, i3, i4⟩
  · rintro a i J ha hp hi hia ⟨i1, i2, i3, i4⟩ hnext
    have e5 : J 121 5 = nI (ar t).length := by rw [i2 5 (by decide)]; exact h5
    have q1 : ((ar t).length ≤ i) = False := eq_false (by omega)
    have eA : J 125 i = nI a := by rw [i1 125 (by decide) (by decide), hA i hi, hia]
    refine b_X7_listTurns_121_p7 ?_
    simp (disch := omega) only [pk_mul, nI_add, ksub, kdv, kd8, kd64, kd2, kd3, km8, km64, kt8, ke8, ke64, kcl, kin, kle, klt, keq, up_s, up_n, up_u, true_and, and_true, false_implies, true_implies, not_false_eq_true, not_true_eq_false, e5, q1, eA]
    have hln := nb_len t (a % 8)
    refine lp_fl (l := nb t (a % 8)) rfl (N := 8) (p := nbp t (a % 8)) (S := Nat → Nat → Int32) (T := fun j J => T_X7_listTurns_121_p27 e (nI i) (nI (a % 8)) (nI j) J L Q) (fun z J => (∀ a, a ≠ 121 → a ≠ 126 → J a = I a) ∧ (∀ k, k ≠ 6 → J 121 k = I 121 k) ∧ J 121 6 = nI (cn (tB t) (8 * a + z)) ∧ (∀ i, i < cn (tB t) (8 * a + z) → J 126 i = nI ((tu t).getD i 0))) ?_ ?_ ?_ J ⟨i1, i2, i3, i4⟩
    · rintro z J2 hz hpz ⟨j1, j2, j3, j4⟩
      have hcn : cn (tB t) (8 * a + (z + 1)) = cn (tB t) (8 * a + z) := by
        rw [show 8 * a + (z + 1) = 8 * a + z + 1 from by omega, cn_0 (by rw [tB_8 hz, hpz, Bool.and_false])]
      rw [hcn]
      exact ⟨j1, j2, j3, j4⟩
    · rintro z j J2 hz hpz hj hjz ⟨j1, j2, j3, j4⟩ hnext2
      have e2 : J2 123 (a % 8) = nI (nb t (a % 8)).length := by rw [j1 123 (by decide) (by decide)]; exact hD _ (by omega)
      have e3 : J2 124 (8 * (a % 8) + j) = nI z := by rw [j1 124 (by decide) (by decide), hN _ (by omega) j hj, hjz]
      have e4 : J2 125 i = nI a := by rw [j1 125 (by decide) (by decide), hA i hi, hia]
      have q2 : ((nb t (a % 8)).length ≤ j) = False := eq_false (by omega)
      have hT : tB t (8 * a + z) = true := by rw [tB_8 hz, hp, hpz]; rfl
      have hb := cn_n (tB t) (8 * a + z)
      have hat := gd_at (p := tB t) (N := 512) (k := 8 * a + z) (by omega) hT
      have hc1 := cn_1 hT
      refine b_X7_listTurns_121_p27 ?_
      simp (disch := omega) only [pk_mul, nI_add, ksub, kdv, kd8, kd64, kd2, kd3, km8, km64, kt8, ke8, ke64, kcl, kin, kle, klt, keq, up_s, up_n, up_u, true_and, and_true, false_implies, true_implies, not_false_eq_true, not_true_eq_false, e2, q2, e3, e4, j3]
      refine hnext2 _ ⟨fun a' h1 h2 => by rw [up_n h1, up_n h2]; exact j1 a' h1 h2, fun k hk => ?_, ?_, fun i' hi' => ?_⟩
      · show va_up (J2 121) 6 _ k = _
        rw [up_n hk]; exact j2 k hk
      · show va_up (J2 121) 6 _ 6 = _
        rw [up_s, show 8 * a + (z + 1) = 8 * a + z + 1 from by omega, hc1]
        exact up_s
      · show va_up (J2 126) _ _ i' = _
        rw [show 8 * a + (z + 1) = 8 * a + z + 1 from by omega, hc1] at hi'
        by_cases he : i' = cn (tB t) (8 * a + z)
        · rw [he, up_s, hat]
        · rw [up_n he]; exact j4 i' (by omega)
    · rintro J2 ⟨j1, j2, j3, j4⟩
      have e2 : J2 123 (a % 8) = nI (nb t (a % 8)).length := by rw [j1 123 (by decide) (by decide)]; exact hD _ (by omega)
      have q2 : ((nb t (a % 8)).length ≤ (nb t (a % 8)).length) = True := eq_true (Nat.le_refl _)
      refine b_X7_listTurns_121_p27 ?_
      simp (disch := omega) only [pk_mul, nI_add, ksub, kdv, kd8, kd64, kd2, kd3, km8, km64, kt8, ke8, ke64, kcl, kin, kle, klt, keq, up_s, up_n, up_u, true_and, and_true, false_implies, true_implies, not_false_eq_true, not_true_eq_false, e2, q2]
      exact hnext J2 ⟨j1, j2, j3, j4⟩
  · rintro J ⟨i1, i2, i3, i4⟩
    have e5 : J 121 5 = nI (ar t).length := by rw [i2 5 (by decide)]; exact h5
    have q1 : ((ar t).length ≤ (ar t).length) = True := eq_true (Nat.le_refl _)
    refine b_X7_listTurns_121_p7 ?_
    simp (disch := omega) only [pk_mul, nI_add, ksub, kdv, kd8, kd64, kd2, kd3, km8, km64, kt8, ke8, ke64, kcl, kin, kle, klt, keq, up_s, up_n, up_u, true_and, and_true, false_implies, true_implies, not_false_eq_true, not_true_eq_false, e5, q1]
    exact hQ J i1 i2 (by rw [cn_fl]; exact i3) (fun i hi => i4 i (by rw [cn_fl] at hi; exact hi))
theorem c_settle_121 {e : am_V} {I : Nat → Nat → Int32} {L : Nat → Nat → Int64} {Q : (Nat → Nat → Int32) → Prop} {t : tw} (hS : ∀ k, k < 64 → I 122 k = nI (t 1 k)) (h9 : ∀ k, k < 64 → t 1 k ≤ 9) (hQ : ∀ J, frS121 I J → J 121 5 = nI (ar t).length → J 121 6 = nI (tu t).length → (∀ x, x < 8 → J 123 x = nI (nb t x).length) → (∀ x, x < 8 → ∀ i, i < (nb t x).length → J 124 (8 * x + i) = nI ((nb t x).getD i 0)) → (∀ i, i < (ar t).length → J 125 i = nI ((ar t).getD i 0)) → (∀ i, i < (tu t).length → J 126 i = nI ((tu t).getD i 0)) → Q J) : C_X7_settle_121 e I L Q := by
  refine b_X7_settle_121 ?_
  refine lp_up (n := 8) (S := Nat → Nat → Int32) (T := fun x J => T_X7_settle_121_p7 e (nI x) J L Q) (fun x J => frS121 I J ∧ J 121 5 = nI (cn (arp t) (8 * x)) ∧ (∀ x', x' < x → J 123 x' = nI (nb t x').length) ∧ (∀ x', x' < x → ∀ i, i < (nb t x').length → J 124 (8 * x' + i) = nI ((nb t x').getD i 0)) ∧ (∀ i, i < cn (arp t) (8 * x) → J 125 i = nI ((ar t).getD i 0))) ?_ ?_ 0 _ (Nat.zero_le _) ⟨⟨fun a h1 _ _ _ _ => up_n h1, fun k h1 h2 => by show va_up (I 121) 5 (nI 0) k = _; rw [up_n h1]⟩, rfl, fun x' h => absurd h (Nat.not_lt_zero _), fun x' h => absurd h (Nat.not_lt_zero _), fun i h => absurd h (Nat.not_lt_zero _)⟩
  · rintro x J hx ⟨i1, i2, i3, i4, i5⟩ hnext
    have q1 : (8 ≤ x) = False := eq_false (by omega)
    refine b_X7_settle_121_p7 ?_
    simp (disch := omega) only [pk_mul, nI_add, ksub, kdv, kd8, kd64, kd2, kd3, km8, km64, kt8, ke8, ke64, kcl, kin, kle, klt, keq, up_s, up_n, up_u, true_and, and_true, false_implies, true_implies, not_false_eq_true, not_true_eq_false, q1]
    refine lp_up (n := 8) (S := Nat → Nat → Int32) (T := fun y J => T_X7_settle_121_p22 e (nI x) (nI y) J L Q) (fun y J => frS121 I J ∧ J 121 5 = nI (cn (arp t) (8 * x + y)) ∧ (∀ x', x' < x → J 123 x' = nI (nb t x').length) ∧ (∀ x', x' < x → ∀ i, i < (nb t x').length → J 124 (8 * x' + i) = nI ((nb t x').getD i 0)) ∧ (∀ i, i < cn (arp t) (8 * x + y) → J 125 i = nI ((ar t).getD i 0)) ∧ J 123 x = nI (cn (nbp t x) y) ∧ (∀ i, i < cn (nbp t x) y → J 124 (8 * x + i) = nI ((nb t x).getD i 0))) ?_ ?_ 0 _ (Nat.zero_le _) ⟨⟨fun a h1 h2 h3 h4 h5 => by rw [up_n h2]; exact i1.1 a h1 h2 h3 h4 h5, fun k h1 h2 => i1.2 k h1 h2⟩, i2, fun x' h => by show va_up (J 123) x (nI 0) x' = _; rw [up_n (by omega)]; exact i3 x' h, fun x' h i hi => i4 x' h i hi, fun i hi => i5 i hi, by show va_up (J 123) x (nI 0) x = _; rw [up_s]; rfl, fun i h => absurd h (Nat.not_lt_zero _)⟩
    · rintro y J2 hy ⟨j1, j2, j3, j4, j5, j6, j7⟩ hnext2
      have q2 : (8 ≤ y) = False := eq_false (by omega)
      have e1 : J2 122 (8 * x + y) = nI (t 1 (8 * x + y)) := by rw [j1.1 122 (by decide) (by decide) (by decide) (by decide) (by decide)]; exact hS _ (by omega)
      have b1 := h9 (8 * x + y) (by omega)
      have b2 := cn_n (arp t) (8 * x + y)
      have b3 := cn_n (nbp t x) y
      refine b_X7_settle_121_p22 ?_
      simp (disch := omega) only [pk_mul, nI_add, ksub, kdv, kd8, kd64, kd2, kd3, km8, km64, kt8, ke8, ke64, kcl, kin, kle, klt, keq, up_s, up_n, up_u, true_and, and_true, false_implies, true_implies, not_false_eq_true, not_true_eq_false, q2, e1, j6, j2]
      refine ⟨fun h0 => hnext2 _ ?_, fun h0 => hnext2 _ ?_⟩
      · have c1 : cn (arp t) (8 * x + (y + 1)) = cn (arp t) (8 * x + y) := cn_0 (show arp t (8 * x + y) = false from decide_eq_false (by omega))
        have c2 : cn (nbp t x) (y + 1) = cn (nbp t x) y := cn_0 (show nbp t x y = false from decide_eq_false (by omega))
        rw [c1, c2]
        exact ⟨j1, j2, j3, j4, j5, j6, j7⟩
      · have p1 : arp t (8 * x + y) = true := decide_eq_true (by omega)
        have p2 : nbp t x y = true := decide_eq_true (by omega)
        have c1 : cn (arp t) (8 * x + (y + 1)) = cn (arp t) (8 * x + y) + 1 := cn_1 p1
        have c2 : cn (nbp t x) (y + 1) = cn (nbp t x) y + 1 := cn_1 p2
        have a1 := gd_at (p := arp t) (N := 64) (k := 8 * x + y) (by omega) p1
        have a2 := gd_at (p := nbp t x) (N := 8) (k := y) hy p2
        rw [c1, c2]
        refine ⟨⟨fun a h1 h2 h3 h4 h5 => ?_, fun k h1 h2 => ?_⟩, ?_, fun x' h => ?_, fun x' h i hi => ?_, fun i hi => ?_, ?_, fun i hi => ?_⟩
        · rw [up_n h1, up_n h4, up_n h2, up_n h3]; exact j1.1 a h1 h2 h3 h4 h5
        · show va_up (J2 121) 5 _ k = _
          rw [up_n h1]; exact j1.2 k h1 h2
        · rw [up_s]; exact up_s
        · show va_up (J2 123) x _ x' = _
          rw [up_n (by omega)]; exact j3 x' h
        · show va_up (J2 124) _ _ _ = _
          have := nb_len t x'
          rw [up_n (by omega)]; exact j4 x' h i hi
        · show va_up (J2 125) _ _ i = _
          by_cases he : i = cn (arp t) (8 * x + y)
          · rw [he, up_s, a1]
          · rw [up_n he]; exact j5 i (by omega)
        · exact up_s
        · show va_up (J2 124) _ _ _ = _
          by_cases he : i = cn (nbp t x) y
          · rw [he, up_s, a2]
          · rw [up_n (by omega)]; exact j7 i (by omega)
    · rintro J2 ⟨j1, j2, j3, j4, j5, j6, j7⟩
      have q2 : (8 ≤ 8) = True := eq_true (Nat.le_refl _)
      refine b_X7_settle_121_p22 ?_
      simp (disch := omega) only [pk_mul, nI_add, ksub, kdv, kd8, kd64, kd2, kd3, km8, km64, kt8, ke8, ke64, kcl, kin, kle, klt, keq, up_s, up_n, up_u, true_and, and_true, false_implies, true_implies, not_false_eq_true, not_true_eq_false, q2]
      refine hnext J2 ⟨j1, j2, fun x' h => ?_, fun x' h i hi => ?_, j5⟩
      · by_cases he : x' = x
        · rw [he, cn_fl]; exact j6
        · exact j3 x' (by omega)
      · by_cases he : x' = x
        · rw [he] at hi ⊢
          exact j7 i (by rw [cn_fl] at hi; exact hi)
        · exact j4 x' (by omega) i hi
  · rintro J ⟨i1, i2, i3, i4, i5⟩
    have q1 : (8 ≤ 8) = True := eq_true (Nat.le_refl _)
    refine b_X7_settle_121_p7 ?_
    simp (disch := omega) only [pk_mul, nI_add, ksub, kdv, kd8, kd64, kd2, kd3, km8, km64, kt8, ke8, ke64, kcl, kin, kle, klt, keq, up_s, up_n, up_u, true_and, and_true, false_implies, true_implies, not_false_eq_true, not_true_eq_false, q1]
    refine c_listTurns_121 (by rw [cn_fl]; exact i2) i3 i4 (fun i hi => i5 i (by rw [cn_fl] at hi; exact hi)) (fun K k1 k2 k3 k4 => ?_)
    refine hQ K ⟨fun a h1 h2 h3 h4 h5 => (k1 a h1 h5).trans (i1.1 a h1 h2 h3 h4 h5), fun k h1 h2 => (k2 k h2).trans (i1.2 k h1 h2)⟩ ?_ k3 (fun x hx => ?_) (fun x hx i hi => ?_) (fun i hi => ?_) k4
    · rw [k2 5 (by decide), cn_fl]; exact i2
    · rw [k1 123 (by decide) (by decide)]; exact i3 x hx
    · rw [k1 124 (by decide) (by decide)]; exact i4 x hx i hi
    · rw [k1 125 (by decide) (by decide)]; exact i5 i (by rw [cn_fl] at hi; exact hi)
