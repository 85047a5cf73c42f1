/-! draws: where chance leads -/
theorem lN_div {a b : Nat} (ha : a < 2 ^ 63) (hb : b < 2 ^ 63) : lN a / lN b = lN (a / b) := by
  have h1 : (lN a).toInt = (a : Int) := lg_ofNat_toInt (by omega)
  have h2 : (lN b).toInt = (b : Int) := lg_ofNat_toInt (by omega)
  have hl : a / b ≤ a := Nat.div_le_self ..
  have h3 : (lN (a / b)).toInt = ((a / b : Nat) : Int) := lg_ofNat_toInt (by omega)
  apply Int64.toInt_inj.mp
  rw [Int64.toInt_div, h1, h2, h3, ← Int.ofNat_tdiv]
  clear h1 h2 h3
  generalize a / b = q at *
  exact Int.bmod_eq_of_le (by omega) (by omega)
def lcg (m : Nat) : Nat := (1103515245 * m + 12345) % 2147483648
theorem lcg_b (m : Nat) : lcg m < 2147483648 := Nat.mod_lt _ (by decide)
theorem lcg1 {m : Nat} (hm : m < 2147483648) : (1103515245 : Int64) * lN m + (12345 : Int64) - ((1103515245 : Int64) * lN m + (12345 : Int64)) / (2147483648 : Int64) * (2147483648 : Int64) = lN (lcg m) := by
  show lN 1103515245 * lN m + lN 12345 - (lN 1103515245 * lN m + lN 12345) / lN 2147483648 * lN 2147483648 = _
  rw [lN_mul, lN_add, lN_div (by omega) (by omega), lN_mul, lN_sub (by omega)]
  unfold lcg
  exact congrArg lN (by omega)
theorem lcg2 {m k : Nat} (hm : m < 2147483648) (hk : k ≤ 8) : (lN m / (65536 : Int64) - lN m / (65536 : Int64) / lN k * lN k).toInt32 = nI (m / 65536 % k) := by
  show (lN m / lN 65536 - lN m / lN 65536 / lN k * lN k).toInt32 = _
  have h := Nat.div_mul_le_self (m / 65536) k
  rw [lN_div (by omega) (by omega), lN_div (by omega) (by omega), lN_mul, lN_sub h, lN_i]
  refine congrArg nI ?_
  have := Nat.div_add_mod (m / 65536) k
  rw [Nat.mul_comm] at this
  omega
theorem lN_z {k : Nat} (h0 : 0 < k) (hk : k < 2147483648) : (lN k = (0 : Int64)) = False := by
  refine eq_false (fun h => ?_)
  have h2 : lN k = lN 0 := h
  rw [lN_eq (by omega) (by omega)] at h2
  omega
def opP (t : tw) (nw : Nat → Nat) (p x y : Nat) : Bool := decide (0 < t 1 (8 * x + y)) && (decide (p = 8) || decide (0 < nw (64 * p + 8 * x + y)))
theorem opP_i {t : tw} {nw : Nat → Nat} {p x y : Nat} : opP t nw p x y = true ↔ 0 < t 1 (8 * x + y) ∧ (p = 8 ∨ 0 < nw (64 * p + 8 * x + y)) := by
  unfold opP
  rw [Bool.and_eq_true, Bool.or_eq_true, decide_eq_true_eq, decide_eq_true_eq, decide_eq_true_eq]
def opl (t : tw) (nw : Nat → Nat) (p x : Nat) : List Nat := (List.range 8).filter (opP t nw p x)
def pv (p : Nat) : Int32 := if p = 8 then -1 else nI p
theorem pv8 : pv 8 = (-1 : Int32) := rfl
theorem pvn {p : Nat} (h : p < 8) : pv p = nI p := if_neg (by omega)
theorem opl_l (t : tw) (nw : Nat → Nat) (p x : Nat) : (opl t nw p x).length ≤ 8 := by
  have := List.length_filter_le (opP t nw p x) (List.range 8)
  rwa [List.length_range] at this
theorem fl_k (p : Nat → Bool) (k : Nat) : ((List.range k).filter p).length ≤ k := by
  have := List.length_filter_le p (List.range k)
  rwa [List.length_range] at this
theorem fl_get {p : Nat → Bool} {k j : Nat} (hj : j < ((List.range k).filter p).length) : ((List.range (k + 1)).filter p).getD j 0 = ((List.range k).filter p).getD j 0 := by
  rw [List.range_succ, List.filter_append, List.getD_eq_getElem?_getD, List.getElem?_append_left hj, ← List.getD_eq_getElem?_getD]
theorem opl_y {t : tw} {nw : Nat → Nat} {p x i : Nat} (h : i < (opl t nw p x).length) : (opl t nw p x).getD i 0 < 8 ∧ 0 < t 1 (8 * x + (opl t nw p x).getD i 0) ∧ (p = 8 ∨ 0 < nw (64 * p + 8 * x + (opl t nw p x).getD i 0)) := by
  have h1 := gd_mem h
  obtain ⟨h2, h3⟩ := List.mem_filter.mp h1
  have h4 := opP_i.mp h3
  exact ⟨List.mem_range.mp h2, h4.1, h4.2⟩
/-- seed, where from (8: nowhere), where, left, steps -/
def stS (t : tw) (s : Nat × Nat × Nat × (Nat → Nat) × Nat) (y : Nat) : Nat × Nat × Nat × (Nat → Nat) × Nat := (lcg s.1, s.2.2.1, y, if s.2.1 = 8 then s.2.2.2.1 else va_up s.2.2.2.1 (64 * s.2.1 + 8 * s.2.2.1 + y) (s.2.2.2.1 (64 * s.2.1 + 8 * s.2.2.1 + y) - 1), s.2.2.2.2 + 1)
def stY (t : tw) (s : Nat × Nat × Nat × (Nat → Nat) × Nat) : Nat := (opl t s.2.2.2.1 s.2.1 s.2.2.1).getD (lcg s.1 / 65536 % (opl t s.2.2.2.1 s.2.1 s.2.2.1).length) 0
def strw (t : tw) : Nat → Nat × Nat × Nat × (Nat → Nat) × Nat → Nat × Nat × Nat × (Nat → Nat) × Nat
  | 0, s => s
  | n + 1, s => if (opl t s.2.2.2.1 s.2.1 s.2.2.1).length = 0 then s else strw t n (stS t s (stY t s))
def sOK (t : tw) (s : Nat × Nat × Nat × (Nat → Nat) × Nat) : Prop := s.1 < 2147483648 ∧ s.2.2.1 < t 0 0 ∧ (s.2.1 = 8 ∨ (s.2.1 < 8 ∧ 0 < t 1 (8 * s.2.1 + s.2.2.1))) ∧ (∀ k, k < 512 → s.2.2.2.1 k ≤ 9) ∧ (∀ k, k < 512 → tB t k = false → s.2.2.2.1 k = 0)
theorem stY_s {t : tw} {s : Nat × Nat × Nat × (Nat → Nat) × Nat} (h : ¬ (opl t s.2.2.2.1 s.2.1 s.2.2.1).length = 0) : stY t s < 8 ∧ 0 < t 1 (8 * s.2.2.1 + stY t s) ∧ (s.2.1 = 8 ∨ 0 < s.2.2.2.1 (64 * s.2.1 + 8 * s.2.2.1 + stY t s)) := opl_y (Nat.mod_lt _ (by omega))
theorem sOK_s {t : tw} {s : Nat × Nat × Nat × (Nat → Nat) × Nat} (hk : tok t) (hs : sOK t s) (h : ¬ (opl t s.2.2.2.1 s.2.1 s.2.2.1).length = 0) : sOK t (stS t s (stY t s)) := by
  obtain ⟨y1, y2, y3⟩ := stY_s h
  obtain ⟨m, p, x, nw, c⟩ := s
  generalize stY t (m, p, x, nw, c) = y at *
  obtain ⟨s1, s2, s3, s4, s5⟩ := hs
  obtain ⟨o0, oT, oZ, oY, oD, o9, oN, o28, oB, oX, oE, oF, oA, oH, oU, oV⟩ := hk
  dsimp only at *
  have hN := oN x (by omega) y y1 y2
  refine ⟨lcg_b m, hN.2, Or.inr ⟨(by show x < 8; omega), y2⟩, ?_⟩
  show (∀ k, k < 512 → (if p = 8 then nw else va_up nw (64 * p + 8 * x + y) (nw (64 * p + 8 * x + y) - 1)) k ≤ 9) ∧ (∀ k, k < 512 → tB t k = false → (if p = 8 then nw else va_up nw (64 * p + 8 * x + y) (nw (64 * p + 8 * x + y) - 1)) k = 0)
  by_cases hp : p = 8
  · rw [if_pos hp]; exact ⟨s4, s5⟩
  · rw [if_neg hp]
    refine ⟨fun k h9 => ?_, fun k h9 h8 => ?_⟩
    · by_cases he : k = 64 * p + 8 * x + y
      · rw [he, up_s]
        have := s4 (64 * p + 8 * x + y) (by omega)
        omega
      · rw [up_n he]; exact s4 k h9
    · by_cases he : k = 64 * p + 8 * x + y
      · rw [he, up_s]
        have := s5 k h9 h8
        rw [he] at this
        omega
      · rw [up_n he]; exact s5 k h9 h8
/-- the class chooses -/
theorem c_choose {e : am_V} {I : Nat → Nat → Int32} {L : Nat → Nat → Int64} {t : tw} {nw : Nat → Nat} {p x m : Nat} {Q : Int32 → (Nat → Nat → Int32) → (Nat → Nat → Int64) → Prop} (hC : CT t I) (hk : tok t) (hp : p = 8 ∨ (p < 8 ∧ 0 < t 1 (8 * p + x))) (hx : x < t 0 0) (h70 : I 70 3 = nI x) (h71 : ∀ k, k < 512 → tB t k = true → I 71 k = nI (nw k)) (hb : ∀ k, k < 512 → nw k ≤ 9) (hL : L 70 2 = lN m) (hm : m < 2147483648) (hQ0 : (opl t nw p x).length = 0 → ∀ F, Q (-1 : Int32) (va_up I 72 F) L) (hQ1 : ¬ (opl t nw p x).length = 0 → ∀ F, Q (nI ((opl t nw p x).getD (lcg m / 65536 % (opl t nw p x).length) 0)) (va_up I 72 F) (va_up L 70 (va_up (L 70) 2 (lN (lcg m))))) : C_X5_choose_70_3 e (pv p) I L Q := by
  obtain ⟨c0, c1, c2, c3, c4, c5, c6, c7, c8, cS, cD, cN, cA, cT, cM, cR, cF, cO, cH, cL⟩ := hC
  obtain ⟨o0, oT, oZ, oY, oD, o9, oN, o28, oB, oX, oE, oF, oA, oH, oU, oV⟩ := hk
  refine b_X5_choose_70_3 ?_
  have e0 : I = va_up I 72 (I 72) := (up_id _ _).symm
  rw [e0]
  have g1 := lcg1 hm
  have g3 := lcg_b m
  have hnb : nb t x = (List.range 8).filter (nbp t x) := rfl
  have hD := cD x (by omega)
  have nl : (nb t x).length ≤ 8 := fl_k _ 8
  refine lp_fl (N := 8) (p := nbp t x) hnb (S := Nat × (Nat → Int32)) (T := fun i s => T_X5_choose_70_3_p5 e (pv p) (nI s.1) (nI i) (va_up I 72 s.2) L Q) (fun k s => s.1 = ((List.range k).filter (opP t nw p x)).length ∧ ∀ j, j < s.1 → s.2 j = nI (((List.range k).filter (opP t nw p x)).getD j 0)) ?_ ?_ ?_ (0, I 72) ⟨rfl, fun j hj => absurd hj (Nat.not_lt_zero j)⟩
  · rintro k ⟨n, F⟩ h8 hf ⟨i1, i2⟩
    dsimp only at i1 i2 ⊢
    have hf2 : opP t nw p x k = false := by
      cases ho : opP t nw p x k with
      | false => rfl
      | true =>
        have := (opP_i.mp ho).1
        unfold nbp at hf
        rw [decide_eq_false_iff_not] at hf
        omega
    have h1 := fl_len (opP t nw p x) k
    rw [hf2, if_neg (by decide), Nat.add_zero] at h1
    rw [h1]
    refine ⟨i1, fun j hj => ?_⟩
    rw [fl_get (by omega)]
    exact i2 j hj
  · rintro k i ⟨n, F⟩ h8 ht hi hg ⟨i1, i2⟩ hnext
    dsimp only at i1 i2 hnext ⊢
    have hn8 := fl_k (opP t nw p x) k
    have hN := cN x (by omega) i hi
    rw [hg] at hN
    have hadj : 0 < t 1 (8 * x + k) := by
      unfold nbp at ht
      exact of_decide_eq_true ht
    have q1 : ((nb t x).length ≤ i) = False := eq_false (by omega)
    have q2 : (8 ≤ n) = False := eq_false (by omega)
    have h1 := fl_len (opP t nw p x) k
    have yes : opP t nw p x k = true → T_X5_choose_70_3_p5 e (pv p) (nI (n + 1)) (nI (i + 1)) (va_up I 72 (va_up F n (nI k))) L Q := by
      intro ho
      refine hnext (n + 1, va_up F n (nI k)) ⟨?_, fun j hj => ?_⟩
      · dsimp only
        rw [h1, ho, if_pos rfl, i1]
      · dsimp only at hj ⊢
        by_cases he : j = n
        · rw [he, up_s, i1, List.getD_eq_getElem?_getD, fl_at (k + 1) k (by omega) ho]
          rfl
        · rw [up_n he, fl_get (by omega)]
          exact i2 j (by omega)
    have no : opP t nw p x k = false → T_X5_choose_70_3_p5 e (pv p) (nI n) (nI (i + 1)) (va_up I 72 F) L Q := by
      intro ho
      rw [ho, if_neg (by decide)] at h1
      refine hnext (n, F) ⟨?_, fun j hj => ?_⟩
      · exact i1.trans h1.symm
      · dsimp only at hj ⊢
        rw [fl_get (by omega)]
        exact i2 j hj
    rcases hp with rfl | ⟨hp, hpx⟩
    · refine b_X5_choose_70_3_p5 ?_
      rw [pv8] at yes no ⊢
      simp (disch := omega) only [pk_mul, nI_add, ksub, kdv, kd8, kd64, kd2, kd3, km8, km64, kt8, ke8, ke64, kcl, kin, kle, klt, keq, up_s, up_n, up_u, true_and, and_true, false_implies, true_implies, not_false_eq_true, not_true_eq_false, h70, hD, q1, q2, hN]
      exact yes (opP_i.mpr ⟨hadj, Or.inl rfl⟩)
    · have q3 := km1 (n := p) (by omega)
      rw [pvn hp] at yes no ⊢
      have hB := tB_x (t := t) hp (by omega : x < 8) h8 hpx hadj
      have e71 := h71 _ (by omega) hB
      have b71 := hb (64 * p + 8 * x + k) (by omega)
      refine b_X5_choose_70_3_p5 ?_
      by_cases h5 : nw (64 * p + 8 * x + k) ≤ 0
      · have q4 := eq_true h5
        simp (disch := omega) only [pk_mul, nI_add, ksub, kdv, kd8, kd64, kd2, kd3, km8, km64, kt8, ke8, ke64, kcl, kin, kle, klt, keq, up_s, up_n, up_u, true_and, and_true, false_implies, true_implies, not_false_eq_true, not_true_eq_false, h70, hD, q1, q2, q3, hN, e71, q4]
        refine no ?_
        cases ho : opP t nw p x k with
        | false => rfl
        | true => have := (opP_i.mp ho).2; omega
      · have q4 := eq_false h5
        simp (disch := omega) only [pk_mul, nI_add, ksub, kdv, kd8, kd64, kd2, kd3, km8, km64, kt8, ke8, ke64, kcl, kin, kle, klt, keq, up_s, up_n, up_u, true_and, and_true, false_implies, true_implies, not_false_eq_true, not_true_eq_false, h70, hD, q1, q2, q3, hN, e71, q4]
        exact yes (opP_i.mpr ⟨hadj, Or.inr (by omega)⟩)
  · rintro ⟨n, F⟩ ⟨i1, i2⟩
    dsimp only at i1 i2 ⊢
    have i1' : n = (opl t nw p x).length := i1
    have i2' : ∀ j, j < n → F j = nI ((opl t nw p x).getD j 0) := i2
    have hn8 := opl_l t nw p x
    have q1 : ((nb t x).length ≤ (nb t x).length) = True := eq_true (Nat.le_refl _)
    refine b_X5_choose_70_3_p5 ?_
    by_cases h0 : n = 0
    · have q2 := eq_true h0
      simp (disch := omega) only [pk_mul, nI_add, ksub, kdv, kd8, kd64, kd2, kd3, km8, km64, kt8, ke8, ke64, kcl, kin, kle, klt, keq, up_s, up_n, up_u, true_and, and_true, false_implies, true_implies, not_false_eq_true, not_true_eq_false, h70, hD, q1, q2]
      exact hQ0 (by omega) F
    · have q2 := eq_false h0
      have q3 : (1 ≤ n) = True := eq_true (by omega)
      have hmod : lcg m / 65536 % n < n := Nat.mod_lt _ (by omega)
      have g2 := lcg2 (m := lcg m) (k := n) (by omega) (by omega)
      have eF := i2' _ hmod
      have q4 := lN_z (k := n) (by omega) (by omega)
      have q5 := nI_64 (n := n) (by omega)
      simp (disch := omega) only [pk_mul, nI_add, ksub, kdv, kd8, kd64, kd2, kd3, km8, km64, kt8, ke8, ke64, kcl, kin, kle, klt, keq, up_s, up_n, up_u, true_and, and_true, false_implies, true_implies, not_false_eq_true, not_true_eq_false, h70, hD, q1, q2, q3, q5, q4, hL, g1, g2, eF]
      rw [i1']
      exact hQ1 (by omega) F
