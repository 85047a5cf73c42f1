/-! taken, given, taken back; laws, errands sent -/
theorem hst_c {t t' : tw} (h1 : t' 1 = t 1) : ∀ {m : Nat} {lf : Nat → Nat}, (∀ i, i < m → t' 7 i = t 7 i ∧ t' 8 i = t 8 i) → hst t m lf → hst t' m lf := by
  intro m
  induction m with
  | zero => intro lf _ _; trivial
  | succ m ih =>
    intro lf he h
    obtain ⟨a1, a2, a3, a4⟩ := h
    obtain ⟨e7, e8⟩ := he m (by omega)
    show t' 7 m < 512 ∧ tB t' (t' 7 m) = true ∧ _ ∧ hst t' m _
    rw [e7, e8]
    refine ⟨a1, ?_, a3, ih (fun i hi => he i (by omega)) a4⟩
    unfold tB at a2 ⊢
    rw [h1]
    exact a2
/-- a turn led: kind 1 taken, 0 given -/
def ldT (t : tw) (k d : Nat) : tw := va_up (va_up (va_up (va_up t 3 (va_up (t 3) k (if d = 1 then t 3 k - 1 else t 3 k + 1))) 7 (va_up (t 7) (t 0 5) k)) 8 (va_up (t 8) (t 0 5) d)) 0 (va_up (t 0) 5 (t 0 5 + 1))
theorem tok_ld {t : tw} {k d : Nat} (hk : tok t) (hk5 : k < 512) (hp : tB t k = true) (ha : t 0 5 < 60) (hd : (d = 1 ∧ 0 < t 3 k) ∨ (d = 0 ∧ t 3 k < 9)) : tok (ldT t k d) := by
  obtain ⟨o0, oT, oZ, oY, oD, o9, oN, o28, oB, oX, oE, oF, oA, oH, oU, oV⟩ := hk
  have hB := oB k hk5
  refine ⟨o0, oT, oZ, oY, oD, o9, oN, o28, fun j hj => ?_, fun j hj hpj => ?_, oE, oF, ?_, ?_, oU, oV⟩
  · refine ⟨(oB j hj).1, ?_⟩
    show va_up (t 3) k _ j ≤ 9
    by_cases he : j = k
    · rw [he, up_s]
      rcases hd with ⟨h1, h2⟩ | ⟨h1, h2⟩
      · rw [if_pos h1]; omega
      · rw [if_neg (by omega)]; omega
    · rw [up_n he]; exact (oB j hj).2
  · show va_up (t 3) k _ j = 0
    by_cases he : j = k
    · rw [he] at hpj
      have : tB t k = false := hpj
      rw [hp] at this; cases this
    · rw [up_n he]; exact oX j hj hpj
  · show t 0 5 + 1 ≤ 60
    omega
  · show hst (ldT t k d) (t 0 5 + 1) (va_up (t 3) k (if d = 1 then t 3 k - 1 else t 3 k + 1))
    have e7 : ldT t k d 7 (t 0 5) = k := up_s
    have e8 : ldT t k d 8 (t 0 5) = d := up_s
    show ldT t k d 7 (t 0 5) < 512 ∧ tB (ldT t k d) (ldT t k d 7 (t 0 5)) = true ∧ _ ∧ hst (ldT t k d) (t 0 5) _
    rw [e7, e8, up_s]
    refine ⟨hk5, hp, ?_, ?_⟩
    · rcases hd with ⟨h1, h2⟩ | ⟨h1, h2⟩
      · rw [if_pos h1]
        exact Or.inl ⟨h1, by omega⟩
      · rw [if_neg (by omega)]
        exact Or.inr ⟨h1, by omega⟩
    · have hback : va_up (va_up (t 3) k (if d = 1 then t 3 k - 1 else t 3 k + 1)) k (if d = 1 then (if d = 1 then t 3 k - 1 else t 3 k + 1) + 1 else (if d = 1 then t 3 k - 1 else t 3 k + 1) - 1) = t 3 := by
        rw [up_u]
        have : (if d = 1 then (if d = 1 then t 3 k - 1 else t 3 k + 1) + 1 else (if d = 1 then t 3 k - 1 else t 3 k + 1) - 1) = t 3 k := by
          rcases hd with ⟨h1, h2⟩ | ⟨h1, h2⟩
          · rw [if_pos h1, if_pos h1]; omega
          · rw [if_neg (by omega), if_neg (by omega)]; omega
        rw [this]
        exact up_id _ _
      rw [hback]
      refine hst_c (t := t) (t' := ldT t k d) rfl (fun i hi => ⟨?_, ?_⟩) oH
      · show va_up (t 7) (t 0 5) k i = t 7 i
        exact up_n (by omega)
      · show va_up (t 8) (t 0 5) d i = t 8 i
        exact up_n (by omega)
/-- the class's town with a turn led -/
theorem CT_ld {t : tw} {k d v : Nat} {I J : Nat → Nat → Int32} (hC : CT t I) (hv : v = if d = 1 then t 3 k - 1 else t 3 k + 1) (h3 : J 3 = va_up (I 3) 8 (nI (t 0 5 + 1))) (h10 : J 10 = va_up (I 10) k (nI v)) (h14 : J 14 = va_up (I 14) (t 0 5) (nI (2 * k + d))) (hr : ∀ a, 4 ≤ a → a ≤ 13 → a ≠ 10 → J a = I a) : CT (ldT t k d) J := by
  obtain ⟨c0, c1, c2, c3, c4, c5, c6, c7, c8, cS, cD, cN, cA, cT, cM, cR, cF, cO, cH, cL⟩ := hC
  unfold CT
  rw [h3, h10, h14, hr 4 (by decide) (by decide) (by decide), hr 5 (by decide) (by decide) (by decide), hr 6 (by decide) (by decide) (by decide), hr 7 (by decide) (by decide) (by decide), hr 8 (by decide) (by decide) (by decide), hr 9 (by decide) (by decide) (by decide), hr 11 (by decide) (by decide) (by decide), hr 12 (by decide) (by decide) (by decide), hr 13 (by decide) (by decide) (by decide)]
  refine ⟨c0, c1, c2, c3, c4, c5, c6, c7, rfl, cS, cD, cN, cA, cT, cM, fun j hj hp => ?_, cF, cO, cH, fun i hi => ?_⟩
  · show va_up (I 10) k (nI v) j = nI (va_up (t 3) k _ j)
    by_cases he : j = k
    · rw [he, up_s, up_s, hv]
    · rw [up_n he, up_n he]; exact cR j hj hp
  · have hi2 : i < t 0 5 + 1 := hi
    show va_up (I 14) (t 0 5) (nI (2 * k + d)) i = nI (2 * va_up (t 7) (t 0 5) k i + va_up (t 8) (t 0 5) d i)
    by_cases he : i = t 0 5
    · rw [he, up_s, up_s, up_s]
    · rw [up_n he, up_n he, up_n he]; exact cL i (by omega)
theorem MT_ld {t : tw} {k d v : Nat} {I J : Nat → Nat → Int32} (hM : MT t I) (hv : v = if d = 1 then t 3 k - 1 else t 3 k + 1) (h80 : J 80 = va_up (I 80) 4 (nI (t 0 5 + 1))) (h83 : J 83 = va_up (I 83) k (nI v)) (h85 : J 85 = va_up (va_up (I 85) (2 * t 0 5) (nI k)) (2 * t 0 5 + 1) (nI d)) (hr : ∀ a, 79 ≤ a → a ≤ 84 → a ≠ 80 → a ≠ 83 → J a = I a) : MT (ldT t k d) J := by
  obtain ⟨m0, m1, m2, m3, m4, m5, mS, mU, mL, mF, mO, mH, mA, mK⟩ := hM
  unfold MT
  rw [h80, h83, h85, hr 79 (by decide) (by decide) (by decide) (by decide), hr 81 (by decide) (by decide) (by decide) (by decide), hr 82 (by decide) (by decide) (by decide) (by decide), hr 84 (by decide) (by decide) (by decide) (by decide)]
  refine ⟨m0, m1, m2, m3, m4, rfl, mS, mU, fun j hj => ?_, mF, mO, mH, fun i hi => ?_, fun i hi => ?_⟩
  · show va_up (I 83) k (nI v) j = nI (va_up (t 3) k _ j)
    by_cases he : j = k
    · rw [he, up_s, up_s, hv]
    · rw [up_n he, up_n he]; exact mL j hj
  · have hi2 : i < t 0 5 + 1 := hi
    show va_up (va_up (I 85) (2 * t 0 5) (nI k)) (2 * t 0 5 + 1) (nI d) (2 * i) = nI (va_up (t 7) (t 0 5) k i)
    by_cases he : i = t 0 5
    · rw [he, up_n (by omega), up_s, up_s]
    · rw [up_n (by omega), up_n (by omega), up_n he]; exact mA i (by omega)
  · have hi2 : i < t 0 5 + 1 := hi
    show va_up (va_up (I 85) (2 * t 0 5) (nI k)) (2 * t 0 5 + 1) (nI d) (2 * i + 1) = nI (va_up (t 8) (t 0 5) d i)
    by_cases he : i = t 0 5
    · rw [he, up_s, up_s]
    · rw [up_n (by omega), up_n (by omega), up_n he]; exact mK i (by omega)
/-- the latest taken back -/
def udT (t : tw) : tw := va_up (va_up t 3 (va_up (t 3) (t 7 (t 0 5 - 1)) (if t 8 (t 0 5 - 1) = 1 then t 3 (t 7 (t 0 5 - 1)) + 1 else t 3 (t 7 (t 0 5 - 1)) - 1))) 0 (va_up (t 0) 5 (t 0 5 - 1))
theorem ud_sp {t : tw} (hk : tok t) (ha : 0 < t 0 5) : t 7 (t 0 5 - 1) < 512 ∧ tB t (t 7 (t 0 5 - 1)) = true ∧ ((t 8 (t 0 5 - 1) = 1 ∧ t 3 (t 7 (t 0 5 - 1)) < 9) ∨ (t 8 (t 0 5 - 1) = 0 ∧ 0 < t 3 (t 7 (t 0 5 - 1)))) ∧ hst t (t 0 5 - 1) (va_up (t 3) (t 7 (t 0 5 - 1)) (if t 8 (t 0 5 - 1) = 1 then t 3 (t 7 (t 0 5 - 1)) + 1 else t 3 (t 7 (t 0 5 - 1)) - 1)) := by
  obtain ⟨o0, oT, oZ, oY, oD, o9, oN, o28, oB, oX, oE, oF, oA, oH, oU, oV⟩ := hk
  have h : hst t (t 0 5 - 1 + 1) (t 3) := by rw [show t 0 5 - 1 + 1 = t 0 5 from by omega]; exact oH
  exact h
theorem tok_ud {t : tw} (hk : tok t) (ha : 0 < t 0 5) : tok (udT t) := by
  obtain ⟨u1, u2, u3, u4⟩ := ud_sp hk ha
  obtain ⟨o0, oT, oZ, oY, oD, o9, oN, o28, oB, oX, oE, oF, oA, oH, oU, oV⟩ := hk
  have hB := oB _ u1
  refine ⟨o0, oT, oZ, oY, oD, o9, oN, o28, fun j hj => ?_, fun j hj hpj => ?_, oE, oF, ?_, ?_, oU, oV⟩
  · refine ⟨(oB j hj).1, ?_⟩
    show va_up (t 3) (t 7 (t 0 5 - 1)) _ j ≤ 9
    by_cases he : j = t 7 (t 0 5 - 1)
    · rw [he, up_s]
      rcases u3 with ⟨h1, h2⟩ | ⟨h1, h2⟩
      · rw [if_pos h1]; omega
      · rw [if_neg (by omega)]; omega
    · rw [up_n he]; exact (oB j hj).2
  · show va_up (t 3) (t 7 (t 0 5 - 1)) _ j = 0
    by_cases he : j = t 7 (t 0 5 - 1)
    · rw [he] at hpj
      have : tB t (t 7 (t 0 5 - 1)) = false := hpj
      rw [u2] at this; cases this
    · rw [up_n he]; exact oX j hj hpj
  · show t 0 5 - 1 ≤ 60
    omega
  · exact hst_c (t := t) (t' := udT t) rfl (fun i hi => ⟨rfl, rfl⟩) u4
theorem CT_ud {t : tw} {v : Nat} {I J : Nat → Nat → Int32} (hC : CT t I) (hv : v = if t 8 (t 0 5 - 1) = 1 then t 3 (t 7 (t 0 5 - 1)) + 1 else t 3 (t 7 (t 0 5 - 1)) - 1) (h3 : J 3 = va_up (I 3) 8 (nI (t 0 5 - 1))) (h10 : J 10 = va_up (I 10) (t 7 (t 0 5 - 1)) (nI v)) (hr : ∀ a, 4 ≤ a → a ≤ 14 → a ≠ 10 → J a = I a) : CT (udT t) J := by
  obtain ⟨c0, c1, c2, c3, c4, c5, c6, c7, c8, cS, cD, cN, cA, cT, cM, cR, cF, cO, cH, cL⟩ := hC
  unfold CT
  rw [h3, h10, hr 14 (by decide) (by decide) (by decide), hr 4 (by decide) (by decide) (by decide), hr 5 (by decide) (by decide) (by decide), hr 6 (by decide) (by decide) (by decide), hr 7 (by decide) (by decide) (by decide), hr 8 (by decide) (by decide) (by decide), hr 9 (by decide) (by decide) (by decide), hr 11 (by decide) (by decide) (by decide), hr 12 (by decide) (by decide) (by decide), hr 13 (by decide) (by decide) (by decide)]
  refine ⟨c0, c1, c2, c3, c4, c5, c6, c7, rfl, cS, cD, cN, cA, cT, cM, fun j hj hp => ?_, cF, cO, cH, fun i hi => ?_⟩
  · show va_up (I 10) (t 7 (t 0 5 - 1)) (nI v) j = nI (va_up (t 3) (t 7 (t 0 5 - 1)) _ j)
    by_cases he : j = t 7 (t 0 5 - 1)
    · rw [he, up_s, up_s, hv]
    · rw [up_n he, up_n he]; exact cR j hj hp
  · have hi2 : i < t 0 5 - 1 := hi
    exact cL i (by omega)
theorem MT_ud {t : tw} {v : Nat} {I J : Nat → Nat → Int32} (hM : MT t I) (hv : v = if t 8 (t 0 5 - 1) = 1 then t 3 (t 7 (t 0 5 - 1)) + 1 else t 3 (t 7 (t 0 5 - 1)) - 1) (h80 : J 80 = va_up (I 80) 4 (nI (t 0 5 - 1))) (h83 : J 83 = va_up (I 83) (t 7 (t 0 5 - 1)) (nI v)) (hr : ∀ a, 79 ≤ a → a ≤ 85 → a ≠ 80 → a ≠ 83 → J a = I a) : MT (udT t) J := by
  obtain ⟨m0, m1, m2, m3, m4, m5, mS, mU, mL, mF, mO, mH, mA, mK⟩ := hM
  unfold MT
  rw [h80, h83, hr 85 (by decide) (by decide) (by decide) (by decide), hr 79 (by decide) (by decide) (by decide) (by decide), hr 81 (by decide) (by decide) (by decide) (by decide), hr 82 (by decide) (by decide) (by decide) (by decide), hr 84 (by decide) (by decide) (by decide) (by decide)]
  refine ⟨m0, m1, m2, m3, m4, rfl, mS, mU, fun j hj => ?_, mF, mO, mH, fun i hi => ?_, fun i hi => ?_⟩
  · show va_up (I 83) (t 7 (t 0 5 - 1)) (nI v) j = nI (va_up (t 3) (t 7 (t 0 5 - 1)) _ j)
    by_cases he : j = t 7 (t 0 5 - 1)
    · rw [he, up_s, up_s, hv]
    · rw [up_n he, up_n he]; exact mL j hj
  · have hi2 : i < t 0 5 - 1 := hi
    exact mA i (by omega)
  · have hi2 : i < t 0 5 - 1 := hi
    exact mK i (by omega)
/-- a law for a turn -/
def lwT (t : tw) (k v : Nat) : tw := va_up (va_up t 2 (va_up (t 2) k v)) 3 (va_up (t 3) k v)
theorem tok_lw {t : tw} {k v : Nat} (hk : tok t) (hk5 : k < 512) (hp : tB t k = true) (ha : t 0 5 = 0) (hv : v ≤ 9) : tok (lwT t k v) := by
  obtain ⟨o0, oT, oZ, oY, oD, o9, oN, o28, oB, oX, oE, oF, oA, oH, oU, oV⟩ := hk
  refine ⟨o0, oT, oZ, oY, oD, o9, oN, o28, fun j hj => ?_, fun j hj hpj => ?_, oE, oF, oA, ?_, oU, oV⟩
  · show va_up (t 2) k v j ≤ 9 ∧ va_up (t 3) k v j ≤ 9
    by_cases he : j = k
    · rw [he, up_s, up_s]; exact ⟨hv, hv⟩
    · rw [up_n he, up_n he]; exact oB j hj
  · show va_up (t 3) k v j = 0
    by_cases he : j = k
    · rw [he] at hpj
      have : tB t k = false := hpj
      rw [hp] at this; cases this
    · rw [up_n he]; exact oX j hj hpj
  · show hst (lwT t k v) (t 0 5) _
    rw [ha]
    trivial
theorem CT_lw {t : tw} {k v : Nat} {I J : Nat → Nat → Int32} (hC : CT t I) (h9 : J 9 = va_up (I 9) k (nI v)) (h10 : J 10 = va_up (I 10) k (nI v)) (hr : ∀ a, 3 ≤ a → a ≤ 14 → a ≠ 9 → a ≠ 10 → J a = I a) : CT (lwT t k v) J := by
  obtain ⟨c0, c1, c2, c3, c4, c5, c6, c7, c8, cS, cD, cN, cA, cT, cM, cR, cF, cO, cH, cL⟩ := hC
  unfold CT
  rw [h9, h10, hr 3 (by decide) (by decide) (by decide) (by decide), hr 14 (by decide) (by decide) (by decide) (by decide), hr 4 (by decide) (by decide) (by decide) (by decide), hr 5 (by decide) (by decide) (by decide) (by decide), hr 6 (by decide) (by decide) (by decide) (by decide), hr 7 (by decide) (by decide) (by decide) (by decide), hr 8 (by decide) (by decide) (by decide) (by decide), hr 11 (by decide) (by decide) (by decide) (by decide), hr 12 (by decide) (by decide) (by decide) (by decide), hr 13 (by decide) (by decide) (by decide) (by decide)]
  refine ⟨c0, c1, c2, c3, c4, c5, c6, c7, c8, cS, cD, cN, cA, cT, fun j hj hp => ?_, fun j hj hp => ?_, cF, cO, cH, cL⟩
  · show va_up (I 9) k (nI v) j = nI (va_up (t 2) k v j)
    by_cases he : j = k
    · rw [he, up_s, up_s]
    · rw [up_n he, up_n he]; exact cM j hj hp
  · show va_up (I 10) k (nI v) j = nI (va_up (t 3) k v j)
    by_cases he : j = k
    · rw [he, up_s, up_s]
    · rw [up_n he, up_n he]; exact cR j hj hp
theorem MT_lw {t : tw} {k v : Nat} {I J : Nat → Nat → Int32} (hM : MT t I) (h82 : J 82 = va_up (I 82) k (nI v)) (h83 : J 83 = va_up (I 83) k (nI v)) (hr : ∀ a, 79 ≤ a → a ≤ 85 → a ≠ 82 → a ≠ 83 → J a = I a) : MT (lwT t k v) J := by
  obtain ⟨m0, m1, m2, m3, m4, m5, mS, mU, mL, mF, mO, mH, mA, mK⟩ := hM
  unfold MT
  rw [h82, h83, hr 79 (by decide) (by decide) (by decide) (by decide), hr 80 (by decide) (by decide) (by decide) (by decide), hr 81 (by decide) (by decide) (by decide) (by decide), hr 84 (by decide) (by decide) (by decide) (by decide), hr 85 (by decide) (by decide) (by decide) (by decide)]
  refine ⟨m0, m1, m2, m3, m4, m5, mS, fun j hj => ?_, fun j hj => ?_, mF, mO, mH, mA, mK⟩
  · show va_up (I 82) k (nI v) j = nI (va_up (t 2) k v j)
    by_cases he : j = k
    · rw [he, up_s, up_s]
    · rw [up_n he, up_n he]; exact mU j hj
  · show va_up (I 83) k (nI v) j = nI (va_up (t 3) k v j)
    by_cases he : j = k
    · rw [he, up_s, up_s]
    · rw [up_n he, up_n he]; exact mL j hj
/-- an errand sent -/
def sdT (t : tw) (j x y h : Nat) : tw := va_up (va_up (va_up t 4 (va_up (t 4) j x)) 5 (va_up (t 5) j y)) 6 (va_up (t 6) j h)
theorem tok_sd {t : tw} {j x y h : Nat} (hk : tok t) (hj : j < t 0 4) (hx : x < t 0 0) (hy : y < t 0 0) (hxy : x ≠ y) (hh : h < 24) : tok (sdT t j x y h) := by
  obtain ⟨o0, oT, oZ, oY, oD, o9, oN, o28, oB, oX, oE, oF, oA, oH, oU, oV⟩ := hk
  refine ⟨o0, oT, oZ, oY, oD, o9, oN, o28, oB, oX, oE, fun i hi => ?_, oA, ?_, oU, oV⟩
  · show va_up (t 4) j x i < t 0 0 ∧ va_up (t 5) j y i < t 0 0 ∧ va_up (t 4) j x i ≠ va_up (t 5) j y i ∧ va_up (t 6) j h i < 24
    by_cases he : i = j
    · rw [he, up_s, up_s, up_s]; exact ⟨hx, hy, hxy, hh⟩
    · rw [up_n he, up_n he, up_n he]; exact oF i hi
  · exact hst_c (t := t) (t' := sdT t j x y h) rfl (fun i hi => ⟨rfl, rfl⟩) oH
theorem CT_sd {t : tw} {j x y h : Nat} {I J : Nat → Nat → Int32} (hC : CT t I) (h11 : J 11 = va_up (I 11) j (nI x)) (h12 : J 12 = va_up (I 12) j (nI y)) (h13 : J 13 = va_up (I 13) j (nI h)) (hr : ∀ a, 3 ≤ a → a ≤ 10 → J a = I a) (h14 : J 14 = I 14) : CT (sdT t j x y h) J := by
  obtain ⟨c0, c1, c2, c3, c4, c5, c6, c7, c8, cS, cD, cN, cA, cT, cM, cR, cF, cO, cH, cL⟩ := hC
  unfold CT
  rw [h11, h12, h13, h14, hr 3 (by decide) (by decide), hr 4 (by decide) (by decide), hr 5 (by decide) (by decide), hr 6 (by decide) (by decide), hr 7 (by decide) (by decide), hr 8 (by decide) (by decide), hr 9 (by decide) (by decide), hr 10 (by decide) (by decide)]
  refine ⟨c0, c1, c2, c3, c4, c5, c6, c7, c8, cS, cD, cN, cA, cT, cM, cR, fun i hi => ?_, fun i hi => ?_, fun i hi => ?_, cL⟩
  · show va_up (I 11) j (nI x) i = nI (va_up (t 4) j x i)
    by_cases he : i = j
    · rw [he, up_s, up_s]
    · rw [up_n he, up_n he]; exact cF i hi
  · show va_up (I 12) j (nI y) i = nI (va_up (t 5) j y i)
    by_cases he : i = j
    · rw [he, up_s, up_s]
    · rw [up_n he, up_n he]; exact cO i hi
  · show va_up (I 13) j (nI h) i = nI (va_up (t 6) j h i)
    by_cases he : i = j
    · rw [he, up_s, up_s]
    · rw [up_n he, up_n he]; exact cH i hi
theorem MT_sd {t : tw} {j x y h : Nat} {I J : Nat → Nat → Int32} (hM : MT t I) (h84 : J 84 = va_up (va_up (va_up (I 84) (3 * j) (nI x)) (3 * j + 1) (nI y)) (3 * j + 2) (nI h)) (hr : ∀ a, 79 ≤ a → a ≤ 85 → a ≠ 84 → J a = I a) : MT (sdT t j x y h) J := by
  obtain ⟨m0, m1, m2, m3, m4, m5, mS, mU, mL, mF, mO, mH, mA, mK⟩ := hM
  unfold MT
  rw [h84, hr 79 (by decide) (by decide) (by decide), hr 80 (by decide) (by decide) (by decide), hr 81 (by decide) (by decide) (by decide), hr 82 (by decide) (by decide) (by decide), hr 83 (by decide) (by decide) (by decide), hr 85 (by decide) (by decide) (by decide)]
  refine ⟨m0, m1, m2, m3, m4, m5, mS, mU, mL, fun i hi => ?_, fun i hi => ?_, fun i hi => ?_, mA, mK⟩
  · show va_up _ _ _ (3 * i) = nI (va_up (t 4) j x i)
    rw [up_n (by omega), up_n (by omega)]
    by_cases he : i = j
    · rw [he, up_s, up_s]
    · rw [up_n (by omega), up_n he]; exact mF i hi
  · show va_up _ _ _ (3 * i + 1) = nI (va_up (t 5) j y i)
    rw [up_n (by omega)]
    by_cases he : i = j
    · rw [he, up_s, up_s]
    · rw [up_n (by omega), up_n (by omega), up_n he]; exact mO i hi
  · show va_up _ _ _ (3 * i + 2) = nI (va_up (t 6) j h i)
    by_cases he : i = j
    · rw [he, up_s, up_s]
    · rw [up_n (by omega), up_n (by omega), up_n (by omega), up_n he]; exact mH i hi
