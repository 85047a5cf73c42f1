/-! the class's greatest flow: its search -/
/-- by what an arc was come to: 0 it is a source, 1 + k the turn k, 1000 + k the turn k backward -/
def vI (n : Nat) : Int32 := if n = 0 then (-1000 : Int32) else if n < 1000 then nI (n - 1) else (-1 : Int32) - nI (n - 1000)
def vE (st c f : Nat → Nat) (x : Nat) (sn : Nat → Bool) (r : Nat → Nat) (a v0 ra : Nat) : Prop := (v0 = 0 ∧ rS st x a) ∨ (∃ k, k < 512 ∧ v0 = 1 + k ∧ k % 64 = a ∧ sn (k / 8) = true ∧ r (k / 8) < ra ∧ f k < c k) ∨ (∃ k, k < 512 ∧ v0 = 1000 + k ∧ k / 8 = a ∧ sn (k % 64) = true ∧ r (k % 64) < ra ∧ 0 < f k)
theorem vE_u {st c f : Nat → Nat} {x : Nat} {sn : Nat → Bool} {r : Nat → Nat} {a v0 ra b z : Nat} (h : vE st c f x sn r a v0 ra) (hb : sn b = false) : vE st c f x (va_up sn b true) (va_up r b z) a v0 ra := by
  have hn : ∀ j, sn j = true → j ≠ b := fun j hj he => by rw [he, hb] at hj; cases hj
  rcases h with h | ⟨k, h1, h2, h3, h4, h5, h6⟩ | ⟨k, h1, h2, h3, h4, h5, h6⟩
  · exact Or.inl h
  · exact Or.inr (Or.inl ⟨k, h1, h2, h3, by rw [up_n (hn _ h4)]; exact h4, by rw [up_n (hn _ h4)]; exact h5, h6⟩)
  · exact Or.inr (Or.inr ⟨k, h1, h2, h3, by rw [up_n (hn _ h4)]; exact h4, by rw [up_n (hn _ h4)]; exact h5, h6⟩)
def cvS (t : tw) (x : Nat) (f : Nat → Nat) (I : Nat → Nat → Int32) (z : Nat) (sn : Nat → Bool) (q r v : Nat → Nat) (J : Nat → Nat → Int32) : Prop := fr [43, 45, 46, 47] [] I J ∧ J 43 5 = I 43 5 ∧ bfR 45 46 sn q z J ∧ J 43 3 = nI z ∧ bfs (rS (t 1) x) (rF (t 3) f) sn q z ∧ ∀ a, a < 64 → sn a = true → r a < z ∧ J 47 a = vI (v a) ∧ vE (t 1) (t 3) f x sn r a (v a) (r a)
theorem cvS_u {t : tw} {x : Nat} {f : Nat → Nat} {I : Nat → Nat → Int32} {z : Nat} {sn : Nat → Bool} {q r v : Nat → Nat} {J : Nat → Nat → Int32} {a v0 : Nat} {w : Int32} (h : cvS t x f I z sn q r v J) (ha : a < 64) (hn : sn a = false) (hv : vE (t 1) (t 3) f x sn r a v0 z) (hw : w = vI v0) : cvS t x f I (z + 1) (va_up sn a true) (va_up q z a) (va_up r a z) (va_up v a v0) (va_up (va_up (va_up (va_up J 45 (va_up (J 45) a (nI 1))) 47 (va_up (J 47) a w)) 46 (va_up (J 46) z (nI a))) 43 (va_up (J 43) 3 (nI (z + 1)))) := by
  obtain ⟨h1, h2, h3, h4, h5, h6⟩ := h
  have hrc : RC (rS (t 1) x) (rF (t 3) f) a := by
    rcases hv with h | ⟨k, g1, g2, g3, g4, g5, g6⟩ | ⟨k, g1, g2, g3, g4, g5, g6⟩
    · exact RC_0 h.2
    · exact RC_1 (h5.2.2.2 (k / 8) (by omega) g4) ⟨by omega, ha, Or.inl ⟨by omega, by rw [show 8 * (k / 8) + a % 8 = k from by omega]; exact g6⟩⟩
    · exact RC_1 (h5.2.2.2 (k % 64) (by omega) g4) ⟨by omega, ha, Or.inr ⟨by omega, by rw [show 8 * a + k % 64 % 8 = k from by omega]; exact g6⟩⟩
  refine ⟨fr_up (fr_up (fr_up (fr_up h1 rfl) rfl) rfl) rfl, h2, ⟨fun b hb => ?_, fun i hi => ?_⟩, rfl, bfs_u h5 ha hn hrc, fun b hb hs => ?_⟩
  · show va_up (J 45) a (nI 1) b = _
    by_cases he : b = a
    · rw [he, up_s, up_s]; rfl
    · rw [up_n he, up_n he]; exact h3.1 b hb
  · show va_up (J 46) z (nI a) i = _
    by_cases he : i = z
    · rw [he, up_s, up_s]
    · rw [up_n he, up_n he]; exact h3.2 i (by omega)
  · show va_up r a z b < z + 1 ∧ va_up (J 47) a w b = vI (va_up v a v0 b) ∧ _
    by_cases he : b = a
    · rw [he, up_s, up_s, up_s]
      exact ⟨by omega, hw, vE_u hv hn⟩
    · rw [up_n he] at hs
      obtain ⟨g1, g2, g3⟩ := h6 b hb hs
      rw [up_n he, up_n he, up_n he]
      exact ⟨by omega, g2, vE_u g3 hn⟩
theorem cv_st {t : tw} {x : Nat} {f : Nat → Nat} {a : Nat} (hk : tok t) (hb : ∀ k, k < 512 → f k ≤ t 3 k) (h : RC (rS (t 1) x) (rF (t 3) f) a) : 0 < t 1 a := by
  refine h (fun a => 0 < t 1 a) (fun s hs => hs.2.2) (fun p b hp he => ?_)
  obtain ⟨g1, g2, ⟨g3, g4⟩ | ⟨g3, g4⟩⟩ := he
  · have h1 := (tB_i.mp (t3_pos hk (k := 8 * p + b % 8) (by omega) (by omega))).2
    rw [show (8 * p + b % 8) % 64 = b from by omega] at h1
    exact h1
  · have h0 := hb (8 * b + p % 8) (by omega)
    have h1 := (tB_i.mp (t3_pos hk (k := 8 * b + p % 8) (by omega) (by omega))).1
    rw [show (8 * b + p % 8) / 8 = b from by omega] at h1
    exact h1
theorem vI_on {k : Nat} (h : k < 512) : nI k = vI (1 + k) := by
  unfold vI
  rw [if_neg (by omega), if_pos (by omega), show 1 + k - 1 = k from by omega]
theorem vI_bk (k : Nat) : (-1 : Int32) - nI k = vI (1000 + k) := by
  unfold vI
  rw [if_neg (by omega), if_neg (by omega), show 1000 + k - 1000 = k from by omega]
theorem nb_len (t : tw) (y : Nat) : (nb t y).length ≤ 8 := by rw [cn_fl]; exact cn_n _ _
theorem c_onw {e : am_V} {I : Nat → Nat → Int32} {L : Nat → Nat → Int64} {Q : (Nat → Nat → Int32) → Prop} {t : tw} {x a z : Nat} {f q r v : Nat → Nat} {sn : Nat → Bool} {J : Nat → Nat → Int32} (hC : CT t I) (hk : tok t) (hf : ∀ k, k < 512 → I 44 k = nI (f k)) (hb : ∀ k, k < 512 → f k ≤ t 3 k) (h : cvS t x f I z sn q r v J) (ha : a < 64) (hs : sn a = true) (hQ : ∀ z' sn' q' r' v' J', cvS t x f I z' sn' q' r' v' J' → z ≤ z' → (∀ b, sn b = true → sn' b = true) → (∀ i, i < z → q' i = q i) → (∀ y, y < 8 → f (8 * a + y) < t 3 (8 * a + y) → sn' (8 * (a % 8) + y) = true) → Q J') : C_X6_visitOnward_43_3 e (nI a) J L Q := by
  have hw := tok_nw hk
  refine b_X6_visitOnward_43_3 ?_
  simp (disch := omega) only [pk_mul, nI_add, ksub, kdv, kd8, kd64, kd2, kd3, km8, km64, kt8, ke8, ke64, kcl, kin, kle, klt, keq, up_s, up_n, up_u, true_and, and_true, false_implies, true_implies, not_false_eq_true, not_true_eq_false]
  have hln := nb_len t (a % 8)
  have hsa : 0 < t 1 a := cv_st hk hb (h.2.2.2.2.1.2.2.2 a ha hs)
  refine lp_fl (l := nb t (a % 8)) rfl (N := 8) (p := nbp t (a % 8)) (S := Nat × (Nat → Bool) × (Nat → Nat) × (Nat → Nat) × (Nat → Nat) × (Nat → Nat → Int32)) (T := fun i s => T_X6_visitOnward_43_3_p8 e (nI a) (nI (a % 8)) (nI i) s.2.2.2.2.2 L Q) (fun y s => cvS t x f I s.1 s.2.1 s.2.2.1 s.2.2.2.1 s.2.2.2.2.1 s.2.2.2.2.2 ∧ z ≤ s.1 ∧ (∀ b, sn b = true → s.2.1 b = true) ∧ (∀ i, i < z → s.2.2.1 i = q i) ∧ (∀ y', y' < y → f (8 * a + y') < t 3 (8 * a + y') → s.2.1 (8 * (a % 8) + y') = true)) ?_ ?_ ?_ (z, sn, q, r, v, J) ⟨h, Nat.le_refl _, fun _ h => h, fun _ _ => rfl, fun y' h => absurd h (Nat.not_lt_zero _)⟩
  · rintro y ⟨z1, sn1, q1, r1, v1, J1⟩ hy hp ⟨i1, i2, i3, i4, i5⟩
    refine ⟨i1, i2, i3, i4, fun y' hy' h2 => ?_⟩
    by_cases he : y' = y
    · rw [he] at h2
      have h5 := (tB_i.mp (t3_pos hk (k := 8 * a + y) (by omega) (by omega))).2
      rw [show (8 * a + y) % 64 = 8 * (a % 8) + y from by omega] at h5
      unfold nbp at hp
      rw [decide_eq_true h5] at hp
      cases hp
    · exact i5 y' (by omega) h2
  · rintro y i ⟨z1, sn1, q1, r1, v1, J1⟩ hy hp hi hiy ⟨i1, i2, i3, i4, i5⟩ hnext
    dsimp only at i1 i2 i3 i4 i5
    have hsy : 0 < t 1 (8 * (a % 8) + y) := by unfold nbp at hp; simpa using hp
    have hz1 := bfs_le i1.2.2.2.2.1
    have hC1 := fr_CT i1.1 hC rfl
    obtain ⟨c0, c1, c2, c3, c4, c5, c6, c7, c8, cS, cD, cN, cA, cT, cM, cR, cF, cO, cH, cL⟩ := hC1
    have e5 := cD (a % 8) (by omega)
    have e6 := cN (a % 8) (by omega) i hi
    rw [hiy] at e6
    have g1 : ((nb t (a % 8)).length ≤ i) = False := eq_false (by omega)
    have hT : tB t (8 * a + y) = true := by
      rw [tB_i, show (8 * a + y) / 8 = a from by omega, show (8 * a + y) % 64 = 8 * (a % 8) + y from by omega]
      exact ⟨hsa, hsy⟩
    have er := cR (8 * a + y) (by omega) hT
    have bd4 := hw (8 * a + y) (by omega)
    have bd5 := hb (8 * a + y) (by omega)
    have e44 : J1 44 (8 * a + y) = nI (f (8 * a + y)) := by rw [i1.1.1 44 (by decide) (by decide)]; exact hf _ (by omega)
    have e45 := i1.2.2.1.1 (8 * (a % 8) + y) (by omega)
    have e43 := i1.2.2.2.1
    have q4 : (8 * a + y) % 64 = 8 * (a % 8) + y := by omega
    refine b_X6_visitOnward_43_3_p8 ?_
    simp (disch := omega) only [pk_mul, nI_add, ksub, kdv, kd8, kd64, kd2, kd3, km8, km64, kt8, ke8, ke64, kcl, kin, kle, klt, keq, up_s, up_n, up_u, true_and, and_true, false_implies, true_implies, not_false_eq_true, not_true_eq_false, e5, e6, g1, er, e44, e43, q4, e45, if1]
    refine ⟨fun h0 => hnext (z1, sn1, q1, r1, v1, J1) ⟨i1, i2, i3, i4, fun y' hy' h2 => ?_⟩, fun h0 => ⟨fun hsn => ⟨fun hz64 => ?_, fun hz64 => ?_⟩, fun hsn => hnext (z1, sn1, q1, r1, v1, J1) ⟨i1, i2, i3, i4, fun y' hy' h2 => ?_⟩⟩⟩
    · by_cases he : y' = y
      · rw [he] at h2; omega
      · exact i5 y' (by omega) h2
    · have := bfs_lt i1.2.2.2.2.1 (show 8 * (a % 8) + y < 64 from by omega) hsn
      omega
    · refine ⟨vp_in_nI (by omega) (by decide), hnext (z1 + 1, va_up sn1 (8 * (a % 8) + y) true, va_up q1 z1 (8 * (a % 8) + y), va_up r1 (8 * (a % 8) + y) z1, va_up v1 (8 * (a % 8) + y) (1 + (8 * a + y)), _) ⟨cvS_u i1 (by omega) hsn (Or.inr (Or.inl ⟨8 * a + y, by omega, rfl, by omega, by rw [show (8 * a + y) / 8 = a from by omega]; exact i3 a hs, by rw [show (8 * a + y) / 8 = a from by omega]; exact (i1.2.2.2.2.2 a ha (i3 a hs)).1, by omega⟩)) (vI_on (by omega)), by show z ≤ z1 + 1; omega, fun b hb2 => ?_, fun j hj => ?_, fun y' hy' h2 => ?_⟩⟩
      · show va_up sn1 _ true b = true
        by_cases he : b = 8 * (a % 8) + y
        · rw [he, up_s]
        · rw [up_n he]; exact i3 b hb2
      · show va_up q1 z1 _ j = q j
        rw [up_n (by omega)]; exact i4 j hj
      · show va_up sn1 _ true _ = true
        by_cases he : y' = y
        · rw [he, up_s]
        · rw [up_n (by omega)]; exact i5 y' (by omega) h2
    · by_cases he : y' = y
      · rw [he]
        simpa using hsn
      · exact i5 y' (by omega) h2
  · rintro ⟨z1, sn1, q1, r1, v1, J1⟩ ⟨i1, i2, i3, i4, i5⟩
    dsimp only at i1 i2 i3 i4 i5
    have hC1 := fr_CT i1.1 hC rfl
    have e5 := hC1.2.2.2.2.2.2.2.2.2.2.1 (a % 8) (by omega)
    have g1 : ((nb t (a % 8)).length ≤ (nb t (a % 8)).length) = True := eq_true (Nat.le_refl _)
    refine b_X6_visitOnward_43_3_p8 ?_
    simp (disch := omega) only [pk_mul, nI_add, ksub, kdv, kd8, kd64, kd2, kd3, km8, km64, kt8, ke8, ke64, kcl, kin, kle, klt, keq, up_s, up_n, up_u, true_and, and_true, false_implies, true_implies, not_false_eq_true, not_true_eq_false, e5, g1]
    exact hQ z1 sn1 q1 r1 v1 J1 i1 i2 i3 i4 i5
theorem c_bkw {e : am_V} {I : Nat → Nat → Int32} {L : Nat → Nat → Int64} {Q : (Nat → Nat → Int32) → Prop} {t : tw} {x a z : Nat} {f q r v : Nat → Nat} {sn : Nat → Bool} {J : Nat → Nat → Int32} (hC : CT t I) (hk : tok t) (hf : ∀ k, k < 512 → I 44 k = nI (f k)) (hb : ∀ k, k < 512 → f k ≤ t 3 k) (h : cvS t x f I z sn q r v J) (ha : a < 64) (hs : sn a = true) (hQ : ∀ z' sn' q' r' v' J', cvS t x f I z' sn' q' r' v' J' → z ≤ z' → (∀ b, sn b = true → sn' b = true) → (∀ i, i < z → q' i = q i) → (∀ y, y < 8 → 0 < f (64 * y + a) → sn' (8 * y + a / 8) = true) → Q J') : C_X6_visitBackward_43_3 e (nI a) J L Q := by
  have hw := tok_nw hk
  have hsym : ∀ p, p < 8 → ∀ s, s < 8 → t 1 (8 * p + s) = t 1 (8 * s + p) := by
    have hk2 := hk
    obtain ⟨o0, oT, oZ, oY, oD, o9, oN, o28, oB, oX, oE, oF, oA, oH, oU, oV⟩ := hk2
    exact oY
  refine b_X6_visitBackward_43_3 ?_
  simp (disch := omega) only [pk_mul, nI_add, ksub, kdv, kd8, kd64, kd2, kd3, km8, km64, kt8, ke8, ke64, kcl, kin, kle, klt, keq, up_s, up_n, up_u, true_and, and_true, false_implies, true_implies, not_false_eq_true, not_true_eq_false]
  have hln := nb_len t (a / 8)
  have hsa : 0 < t 1 a := cv_st hk hb (h.2.2.2.2.1.2.2.2 a ha hs)
  refine lp_fl (l := nb t (a / 8)) rfl (N := 8) (p := nbp t (a / 8)) (S := Nat × (Nat → Bool) × (Nat → Nat) × (Nat → Nat) × (Nat → Nat) × (Nat → Nat → Int32)) (T := fun i s => T_X6_visitBackward_43_3_p8 e (nI a) (nI (a / 8)) (nI i) s.2.2.2.2.2 L Q) (fun y s => cvS t x f I s.1 s.2.1 s.2.2.1 s.2.2.2.1 s.2.2.2.2.1 s.2.2.2.2.2 ∧ z ≤ s.1 ∧ (∀ b, sn b = true → s.2.1 b = true) ∧ (∀ i, i < z → s.2.2.1 i = q i) ∧ (∀ y', y' < y → 0 < f (64 * y' + a) → s.2.1 (8 * y' + a / 8) = true)) ?_ ?_ ?_ (z, sn, q, r, v, J) ⟨h, Nat.le_refl _, fun _ h => h, fun _ _ => rfl, fun y' h => absurd h (Nat.not_lt_zero _)⟩
  · rintro y ⟨z1, sn1, q1, r1, v1, J1⟩ hy hp ⟨i1, i2, i3, i4, i5⟩
    refine ⟨i1, i2, i3, i4, fun y' hy' h2 => ?_⟩
    by_cases he : y' = y
    · rw [he] at h2
      have h0 := hb (64 * y + a) (by omega)
      have h5 := (tB_i.mp (t3_pos hk (k := 64 * y + a) (by omega) (by omega))).1
      rw [show (64 * y + a) / 8 = 8 * y + a / 8 from by omega, ← hsym (a / 8) (by omega) y hy] at h5
      unfold nbp at hp
      rw [decide_eq_true h5] at hp
      cases hp
    · exact i5 y' (by omega) h2
  · rintro y i ⟨z1, sn1, q1, r1, v1, J1⟩ hy hp hi hiy ⟨i1, i2, i3, i4, i5⟩ hnext
    dsimp only at i1 i2 i3 i4 i5
    have hz1 := bfs_le i1.2.2.2.2.1
    have hC1 := fr_CT i1.1 hC rfl
    obtain ⟨c0, c1, c2, c3, c4, c5, c6, c7, c8, cS, cD, cN, cA, cT, cM, cR, cF, cO, cH, cL⟩ := hC1
    have e5 := cD (a / 8) (by omega)
    have e6 := cN (a / 8) (by omega) i hi
    rw [hiy] at e6
    have g1 : ((nb t (a / 8)).length ≤ i) = False := eq_false (by omega)
    have bd4 := hw (64 * y + a) (by omega)
    have bd5 := hb (64 * y + a) (by omega)
    have e44 : J1 44 (64 * y + a) = nI (f (64 * y + a)) := by rw [i1.1.1 44 (by decide) (by decide)]; exact hf _ (by omega)
    have e45 := i1.2.2.1.1 (8 * y + a / 8) (by omega)
    have e43 := i1.2.2.2.1
    have q4 : (64 * y + a) / 8 = 8 * y + a / 8 := by omega
    refine b_X6_visitBackward_43_3_p8 ?_
    simp (disch := omega) only [pk_mul, nI_add, ksub, kdv, kd8, kd64, kd2, kd3, km8, km64, kt8, ke8, ke64, kcl, kin, kle, klt, keq, up_s, up_n, up_u, true_and, and_true, false_implies, true_implies, not_false_eq_true, not_true_eq_false, e5, e6, g1, e44, e43, q4, e45, if1]
    refine ⟨fun h0 => hnext (z1, sn1, q1, r1, v1, J1) ⟨i1, i2, i3, i4, fun y' hy' h2 => ?_⟩, fun h0 => ⟨fun hsn => ⟨fun hz64 => ?_, fun hz64 => ?_⟩, fun hsn => hnext (z1, sn1, q1, r1, v1, J1) ⟨i1, i2, i3, i4, fun y' hy' h2 => ?_⟩⟩⟩
    · by_cases he : y' = y
      · rw [he] at h2; omega
      · exact i5 y' (by omega) h2
    · have := bfs_lt i1.2.2.2.2.1 (show 8 * y + a / 8 < 64 from by omega) hsn
      omega
    · refine ⟨vp_in_nI (by omega) (by decide), hnext (z1 + 1, va_up sn1 (8 * y + a / 8) true, va_up q1 z1 (8 * y + a / 8), va_up r1 (8 * y + a / 8) z1, va_up v1 (8 * y + a / 8) (1000 + (64 * y + a)), _) ⟨cvS_u i1 (by omega) hsn (Or.inr (Or.inr ⟨64 * y + a, by omega, rfl, by omega, by rw [show (64 * y + a) % 64 = a from by omega]; exact i3 a hs, by rw [show (64 * y + a) % 64 = a from by omega]; exact (i1.2.2.2.2.2 a ha (i3 a hs)).1, by omega⟩)) (vI_bk _), by show z ≤ z1 + 1; omega, fun b hb2 => ?_, fun j hj => ?_, fun y' hy' h2 => ?_⟩⟩
      · show va_up sn1 _ true b = true
        by_cases he : b = 8 * y + a / 8
        · rw [he, up_s]
        · rw [up_n he]; exact i3 b hb2
      · show va_up q1 z1 _ j = q j
        rw [up_n (by omega)]; exact i4 j hj
      · show va_up sn1 _ true _ = true
        by_cases he : y' = y
        · rw [he, up_s]
        · rw [up_n (by omega)]; exact i5 y' (by omega) h2
    · by_cases he : y' = y
      · rw [he]
        simpa using hsn
      · exact i5 y' (by omega) h2
  · rintro ⟨z1, sn1, q1, r1, v1, J1⟩ ⟨i1, i2, i3, i4, i5⟩
    dsimp only at i1 i2 i3 i4 i5
    have hC1 := fr_CT i1.1 hC rfl
    have e5 := hC1.2.2.2.2.2.2.2.2.2.2.1 (a / 8) (by omega)
    have g1 : ((nb t (a / 8)).length ≤ (nb t (a / 8)).length) = True := eq_true (Nat.le_refl _)
    refine b_X6_visitBackward_43_3_p8 ?_
    simp (disch := omega) only [pk_mul, nI_add, ksub, kdv, kd8, kd64, kd2, kd3, km8, km64, kt8, ke8, ke64, kcl, kin, kle, klt, keq, up_s, up_n, up_u, true_and, and_true, false_implies, true_implies, not_false_eq_true, not_true_eq_false, e5, g1]
    exact hQ z1 sn1 q1 r1 v1 J1 i1 i2 i3 i4 i5
theorem c_search {e : am_V} {I : Nat → Nat → Int32} {L : Nat → Nat → Int64} {Q : Int32 → (Nat → Nat → Int32) → Prop} {t : tw} {x g : Nat} {f : Nat → Nat} (hC : CT t I) (hk : tok t) (hf : ∀ k, k < 512 → I 44 k = nI (f k)) (hb : ∀ k, k < 512 → f k ≤ t 3 k) (hx : x < 8) (hg : g < 8) (hQ1 : ∀ J (sn : Nat → Bool), fr [43, 45, 46, 47] [] I J → J 43 5 = I 43 5 → (∀ a, a < 64 → J 45 a = nI (if sn a = true then 1 else 0)) → (∀ a, a < 64 → (sn a = true ↔ RC (rS (t 1) x) (rF (t 3) f) a)) → (∀ a, a < 64 → sn a = true → a % 8 ≠ g) → Q (-1 : Int32) J) (hQ2 : ∀ z sn q r v J a, cvS t x f I z sn q r v J → a < 64 → sn a = true → a % 8 = g → Q (nI a) J) : C_X6_search_43_3 e (nI x) (nI g) I L Q := by
  have hrE : ∀ a b, rF (t 3) f a b → a < 64 ∧ b < 64 := fun a b h => ⟨h.1, h.2.1⟩
  refine b_X6_search_43_3 (c_fillz_45 (fun F0 hF0 => ?_))
  have h58 : ∀ m k z sn q r v J, 64 - k = m → k ≤ z → cvS t x f I z sn q r v J → (∀ s, rS (t 1) x s → sn s = true) → bfC (rF (t 3) f) sn q k → (∀ i, i < k → q i % 8 ≠ g) → T_X6_search_43_3_p58 e (nI g) (nI k) J L Q := by
    intro m
    induction m using Nat.strongRecOn with
    | ind m ih =>
      intro k z sn q r v J hm hkz h hS hCl hno
      have hz := bfs_le h.2.2.2.2.1
      have e43 := h.2.2.2.1
      refine b_X6_search_43_3_p58 ?_
      by_cases hkz2 : k = z
      · have q1 : (z ≤ k) = True := eq_true (by omega)
        simp (disch := omega) only [pk_mul, nI_add, ksub, kdv, kd8, kd64, kd2, kd3, km8, km64, kt8, ke8, ke64, kcl, kin, kle, klt, keq, up_s, up_n, up_u, true_and, and_true, false_implies, true_implies, not_false_eq_true, not_true_eq_false, e43, q1]
        refine hQ1 J sn h.1 h.2.1 h.2.2.1.1 (fun a ha => bfs_e h.2.2.2.2.1 hrE (fun s hs => ⟨hs.1, hS s hs⟩) (by rw [← hkz2]; exact hCl) ha) (fun a ha hs => ?_)
        obtain ⟨i, hi, hqi⟩ := h.2.2.2.2.1.2.2.1 a ha hs
        rw [← hqi]
        exact hno i (by omega)
      · have q1 : (z ≤ k) = False := eq_false (by omega)
        have q2 : (64 ≤ k) = False := eq_false (by omega)
        have e46 := h.2.2.1.2 k (by omega)
        obtain ⟨hq64, hqs⟩ := h.2.2.2.2.1.2.1 k (by omega)
        simp (disch := omega) only [pk_mul, nI_add, ksub, kdv, kd8, kd64, kd2, kd3, km8, km64, kt8, ke8, ke64, kcl, kin, kle, klt, keq, up_s, up_n, up_u, true_and, and_true, false_implies, true_implies, not_false_eq_true, not_true_eq_false, e43, q1, q2, e46]
        refine ⟨fun hqg => hQ2 z sn q r v J (q k) h hq64 hqs hqg, fun hqg => ?_⟩
        refine c_onw hC hk hf hb h hq64 hqs (fun z1 sn1 q1 r1 v1 J1 a1 a2 a3 a4 a5 => ?_)
        refine c_bkw hC hk hf hb a1 hq64 (a3 _ hqs) (fun z2 sn2 q2 r2 v2 J2 b1 b2 b3 b4 b5 => ?_)
        have hqe : ∀ i, i < z → q2 i = q i := fun i hi => (b4 i (by omega)).trans (a4 i hi)
        refine ih (64 - (k + 1)) (by omega) (k + 1) z2 sn2 q2 r2 v2 J2 rfl (by omega) b1 (fun s hs => b3 s (a3 s (hS s hs))) (fun i hi b hE => ?_) (fun i hi => ?_)
        · rw [hqe i (by omega)] at hE
          by_cases hik : i = k
          · rw [hik] at hE
            obtain ⟨g1, g2, ⟨g3, g4⟩ | ⟨g3, g4⟩⟩ := hE
            · have h5 := b3 _ (a5 (b % 8) (by omega) g4)
              rw [show 8 * (q k % 8) + b % 8 = b from by omega] at h5
              exact h5
            · have h5 := b5 (b / 8) (by omega) (by rw [show 64 * (b / 8) + q k = 8 * b + q k % 8 from by omega]; exact g4)
              rw [show 8 * (b / 8) + q k / 8 = b from by omega] at h5
              exact h5
          · exact b3 b (a3 b (hCl i (by omega) b hE))
        · rw [hqe i (by omega)]
          by_cases hik : i = k
          · rw [hik]; exact hqg
          · exact hno i (by omega)
  have hln := nb_len t x
  have h0 : cvS t x f I 0 (fun _ => false) (fun _ => 0) (fun _ => 0) (fun _ => 0) (va_up (va_up I 45 F0) 43 (va_up ((va_up I 45 F0) 43) 3 (nI 0))) := ⟨fr_up (fr_up (fr_refl _ _ _) rfl) rfl, rfl, ⟨fun a ha => hF0 a ha, fun i h => absurd h (Nat.not_lt_zero _)⟩, rfl, bfs_0 _ _ _, fun a _ h => by cases h⟩
  refine lp_fl (l := nb t x) rfl (N := 8) (p := nbp t x) (S := Nat × (Nat → Bool) × (Nat → Nat) × (Nat → Nat) × (Nat → Nat) × (Nat → Nat → Int32)) (T := fun i s => T_X6_search_43_3_p16 e (nI x) (nI g) (nI i) s.2.2.2.2.2 L Q) (fun y s => cvS t x f I s.1 s.2.1 s.2.2.1 s.2.2.2.1 s.2.2.2.2.1 s.2.2.2.2.2 ∧ (∀ y', y' < y → 0 < t 1 (8 * x + y') → s.2.1 (8 * x + y') = true)) ?_ ?_ ?_ (0, (fun _ => false), (fun _ => 0), (fun _ => 0), (fun _ => 0), _) ⟨h0, fun y' h => absurd h (Nat.not_lt_zero _)⟩
  · rintro y ⟨z1, sn1, q1, r1, v1, J1⟩ hy hp ⟨i1, i5⟩
    refine ⟨i1, fun y' hy' h2 => ?_⟩
    by_cases he : y' = y
    · rw [he] at h2
      unfold nbp at hp
      rw [decide_eq_true h2] at hp
      cases hp
    · exact i5 y' (by omega) h2
  · rintro y i ⟨z1, sn1, q1, r1, v1, J1⟩ hy hp hi hiy ⟨i1, i5⟩ hnext
    dsimp only at i1 i5
    have hsy : 0 < t 1 (8 * x + y) := by unfold nbp at hp; simpa using hp
    have hz1 := bfs_le i1.2.2.2.2.1
    have hC1 := fr_CT i1.1 hC rfl
    obtain ⟨c0, c1, c2, c3, c4, c5, c6, c7, c8, cS, cD, cN, cA, cT, cM, cR, cF, cO, cH, cL⟩ := hC1
    have e5 := cD x hx
    have e6 := cN x hx i hi
    rw [hiy] at e6
    have g1 : ((nb t x).length ≤ i) = False := eq_false (by omega)
    have e45 := i1.2.2.1.1 (8 * x + y) (by omega)
    have e43 := i1.2.2.2.1
    refine b_X6_search_43_3_p16 ?_
    simp (disch := omega) only [pk_mul, nI_add, ksub, kdv, kd8, kd64, kd2, kd3, km8, km64, kt8, ke8, ke64, kcl, kin, kle, klt, keq, up_s, up_n, up_u, true_and, and_true, false_implies, true_implies, not_false_eq_true, not_true_eq_false, e5, e6, g1, e43, e45, if1]
    refine ⟨fun hsn => ⟨fun hz64 => ?_, fun hz64 => ?_⟩, fun hsn => hnext (z1, sn1, q1, r1, v1, J1) ⟨i1, fun y' hy' h2 => ?_⟩⟩
    · have := bfs_lt i1.2.2.2.2.1 (show 8 * x + y < 64 from by omega) hsn
      omega
    · refine ⟨vp_in_nI (by omega) (by decide), hnext (z1 + 1, va_up sn1 (8 * x + y) true, va_up q1 z1 (8 * x + y), va_up r1 (8 * x + y) z1, va_up v1 (8 * x + y) 0, _) ⟨cvS_u i1 (by omega) hsn (Or.inl ⟨rfl, by omega, by omega, hsy⟩) rfl, fun y' hy' h2 => ?_⟩⟩
      show va_up sn1 _ true _ = true
      by_cases he : y' = y
      · rw [he, up_s]
      · rw [up_n (by omega)]; exact i5 y' (by omega) h2
    · by_cases he : y' = y
      · rw [he]
        simpa using hsn
      · exact i5 y' (by omega) h2
  · rintro ⟨z1, sn1, q1, r1, v1, J1⟩ ⟨i1, i5⟩
    dsimp only at i1 i5
    have hC1 := fr_CT i1.1 hC rfl
    have e5 := hC1.2.2.2.2.2.2.2.2.2.2.1 x hx
    have g1 : ((nb t x).length ≤ (nb t x).length) = True := eq_true (Nat.le_refl _)
    refine b_X6_search_43_3_p16 ?_
    simp (disch := omega) only [pk_mul, nI_add, ksub, kdv, kd8, kd64, kd2, kd3, km8, km64, kt8, ke8, ke64, kcl, kin, kle, klt, keq, up_s, up_n, up_u, true_and, and_true, false_implies, true_implies, not_false_eq_true, not_true_eq_false, e5, g1]
    refine h58 _ 0 z1 sn1 q1 r1 v1 J1 rfl (Nat.zero_le _) i1 (fun s hs => ?_) (fun i h => absurd h (Nat.not_lt_zero _)) (fun i h => absurd h (Nat.not_lt_zero _))
    have h5 := i5 (s % 8) (by omega)
    obtain ⟨s1, s2, s3⟩ := hs
    rw [show 8 * x + s % 8 = s from by omega] at h5
    exact h5 s3
