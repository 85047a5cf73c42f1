/-! the two constructors; what holds behind them -/
set_option maxRecDepth 200000 in
set_option maxHeartbeats 4000000 in
theorem k_X4_37 {I : Nat → Nat → Int32} {L : Nat → Nat → Int64} {R : Nat → Nat → Option Nat} {Post : Option Value → am_S → Prop} (hR : ∀ a, (a = 37 ∨ a = 1 ∨ (15 ≤ a ∧ a < 27)) → R a = tabr a) (h : ∀ J M, (∀ a, a ≠ 37 → a ≠ 1 → (a < 15 ∨ 27 ≤ a) → J a = I a) → J 37 2 = 0 → J 37 6 = 0 → J 37 7 = (-1 : Int32) → (∀ k, J 1 k = 0) → Post none (J, M, R, 38)) : am_C am_P 9 mi_X4_init [.ref 37] (am_new (I, L, R, 24)) 13 3434 Post := by
  have hRr : rSf 37 1 15 (rSf 37 0 1 (rN 1 (rN 37 R))) = R := by
    funext a
    by_cases h37 : a = 37
    · subst h37
      rw [hR 37 (by omega)]
      funext j
      match j with
      | 0 => rfl
      | 1 => rfl
      | 2 => rfl
      | 3 => rfl
      | 4 => rfl
      | 5 => rfl
      | 6 => rfl
      | 7 => rfl
      | j + 8 => rfl
    by_cases h1 : a = 1
    · subst h1
      rw [hR 1 (by omega)]
      funext j
      rfl
    simp only [rSf, rN, va_up, h37, h1, if_false]
  refine am_run_ok am_OK (by decide) [] 600 _ _ _ _ _ _ ?_
  conv => whnf
  refine ⟨rfl, show 1 ≤ 13 from by decide, show 1600 ≤ 3434 from by decide, ?_⟩
  conv => whnf
  refine ⟨show 1 ≤ 12 from by decide, show 20 ≤ 1834 from by decide, 11, 1814, show 11 ≤ 11 from by decide, show 1814 ≤ 1814 from by decide, ?_⟩
  show am_C am_P 8 mi_X7_init [.ref 15] (am_new (iN 1 (iN 37 I), lN0 1 (lN0 37 L), rSf 37 0 1 (rN 1 (rN 37 R)), 26)) 11 1814 _
  refine am_C_d (k_X7_15 (fun a h1 h2 => ?_) (fun J1 M1 f1 => ?_)) (by decide)
  · simp (disch := omega) only [rN_o, rSf_o]
    exact hR a (by omega)
  conv => whnf
  refine ⟨rfl, ?_⟩
  show Post none (iS 37 7 (-1 : Int32) (J1), M1, rSf 37 1 15 (rSf 37 0 1 (rN 1 (rN 37 R))), 38)
  rw [hRr]
  refine h _ _ (fun a h1 h2 h3 => ?_) ?_ ?_ rfl (fun k => ?_)
  · rw [iS_o h1, f1.1 a (by omega), iN_o h2, iN_o h1]
  · show J1 37 2 = 0
    rw [f1.1 37 (by omega)]; rfl
  · show J1 37 6 = 0
    rw [f1.1 37 (by omega)]; rfl
  · show J1 1 k = 0
    rw [f1.1 1 (by omega)]; rfl
set_option maxRecDepth 200000 in
set_option maxHeartbeats 4000000 in
theorem k_X10 {I : Nat → Nat → Int32} {L : Nat → Nat → Int64} {R : Nat → Nat → Option Nat} {Post : Option Value → am_S → Prop} (hR : ∀ a, 0 ≤ a → a < 73 → R a = tabr a) (h : ∀ J M, (∀ a, 73 ≤ a → J a = I a) → J 37 2 = 0 → J 37 6 = 0 → J 37 7 = (-1 : Int32) → J 0 12 = 0 → J 0 13 = (-1 : Int32) → (∀ k, J 1 k = 0) → (∀ k, J 3 k = 0) → (∀ k, J 4 k = 0) → (∀ k, J 5 k = 0) → (∀ s, s < 4 → ∀ k, J (29 + 2 * s) k = 0) → Post none (J, M, R, 73)) : am_C am_P 10 mi_X10_init [.ref 0] (am_new (I, L, R, 0)) 72 9548 Post := by
  have hRr : rSf 0 10 70 (rSf 0 9 65 (rSf 0 8 62 (rSf 0 7 51 (rSf 0 6 48 (rSf 0 5 43 (rSf 0 4 38 (rSf 0 3 37 (rSf 28 3 35 (rSf 28 2 33 (rSf 28 1 31 (rSf 28 0 29 (rSf 0 2 28 (rN 28 (rSf 0 1 27 (rN 27 (rSf 0 0 3 (rSf 0 11 2 (rN 2 (rN 0 R))))))))))))))))))) = R := by
    funext a
    by_cases h0 : a = 0
    · subst h0
      rw [hR 0 (by decide) (by decide)]
      funext j
      match j with
      | 0 => rfl
      | 1 => rfl
      | 2 => rfl
      | 3 => rfl
      | 4 => rfl
      | 5 => rfl
      | 6 => rfl
      | 7 => rfl
      | 8 => rfl
      | 9 => rfl
      | 10 => rfl
      | 11 => rfl
      | 12 => rfl
      | 13 => rfl
      | j + 14 => rfl
    by_cases h2 : a = 2
    · subst h2
      rw [hR 2 (by decide) (by decide)]
      funext j
      rfl
    by_cases h27 : a = 27
    · subst h27
      rw [hR 27 (by decide) (by decide)]
      funext j
      rfl
    by_cases h28 : a = 28
    · subst h28
      rw [hR 28 (by decide) (by decide)]
      funext j
      match j with
      | 0 => rfl
      | 1 => rfl
      | 2 => rfl
      | 3 => rfl
      | j + 4 => rfl
    simp only [rSf, rN, va_up, h0, h2, h27, h28, if_false]
  refine am_run_ok am_OK (by decide) [] 600 _ _ _ _ _ _ ?_
  conv => whnf
  refine ⟨rfl, show 1 ≤ 72 from by decide, show 512 ≤ 9548 from by decide, ?_⟩
  conv => whnf
  refine ⟨show 1 ≤ 71 from by decide, show 20 ≤ 9036 from by decide, 11, 1814, show 11 ≤ 70 from by decide, show 1814 ≤ 9016 from by decide, ?_⟩
  show am_C am_P 9 mi_X7_init [.ref 3] (am_new (iN 2 (iN 0 I), lN0 2 (lN0 0 L), rSf 0 11 2 (rN 2 (rN 0 R)), 2)) 11 1814 _
  refine am_C_d (k_X7_3 (fun a h1 h2 => ?_) (fun J1 M1 f1 => ?_)) (by decide)
  · simp (disch := omega) only [rN_o, rSf_o]
    exact hR a (by omega) (by omega)
  conv => whnf
  refine ⟨rfl, show 1 ≤ 59 from by decide, show 3 ≤ 7202 from by decide, ?_⟩
  conv => whnf
  refine ⟨rfl, show 1 ≤ 58 from by decide, show 4 ≤ 7199 from by decide, ?_⟩
  conv => whnf
  refine ⟨fun q => absurd q (show ¬ nI 4 ≤ nI 0 from by decide), fun _ => ?_⟩
  conv => whnf
  refine ⟨show 1 ≤ 57 from by decide, show 4 ≤ 7195 from by decide, 1, 60, show 1 ≤ 56 from by decide, show 60 ≤ 7191 from by decide, ?_⟩
  show am_C am_P 9 mi_X2_init [.ref 29] (am_new (iN 28 (iN 27 (J1)), lN0 28 (lN0 27 (M1)), rSf 0 2 28 (rN 28 (rSf 0 1 27 (rN 27 (rSf 0 0 3 (rSf 0 11 2 (rN 2 (rN 0 R))))))), 16)) 1 60 _
  refine am_C_d (k_X2_29 (fun a h1 h2 => ?_) (fun J2 M2 f2 => ?_)) (by decide)
  · simp (disch := omega) only [rN_o, rSf_o]
    exact hR a (by omega) (by omega)
  conv => whnf
  refine ⟨show vp_in (nI 0) 4 from lm_in (by decide), ?_⟩
  conv => whnf
  refine ⟨fun q => absurd q (show ¬ nI 4 ≤ nI 1 from by decide), fun _ => ?_⟩
  conv => whnf
  refine ⟨show 1 ≤ 55 from by decide, show 4 ≤ 7131 from by decide, 1, 60, show 1 ≤ 54 from by decide, show 60 ≤ 7127 from by decide, ?_⟩
  show am_C am_P 9 mi_X2_init [.ref 31] (am_new (J2, M2, rSf 28 0 29 (rSf 0 2 28 (rN 28 (rSf 0 1 27 (rN 27 (rSf 0 0 3 (rSf 0 11 2 (rN 2 (rN 0 R)))))))), 18)) 1 60 _
  refine am_C_d (k_X2_31 (fun a h1 h2 => ?_) (fun J3 M3 f3 => ?_)) (by decide)
  · simp (disch := omega) only [rN_o, rSf_o]
    exact hR a (by omega) (by omega)
  conv => whnf
  refine ⟨show vp_in (nI 1) 4 from lm_in (by decide), ?_⟩
  conv => whnf
  refine ⟨fun q => absurd q (show ¬ nI 4 ≤ nI 2 from by decide), fun _ => ?_⟩
  conv => whnf
  refine ⟨show 1 ≤ 53 from by decide, show 4 ≤ 7067 from by decide, 1, 60, show 1 ≤ 52 from by decide, show 60 ≤ 7063 from by decide, ?_⟩
  show am_C am_P 9 mi_X2_init [.ref 33] (am_new (J3, M3, rSf 28 1 31 (rSf 28 0 29 (rSf 0 2 28 (rN 28 (rSf 0 1 27 (rN 27 (rSf 0 0 3 (rSf 0 11 2 (rN 2 (rN 0 R))))))))), 20)) 1 60 _
  refine am_C_d (k_X2_33 (fun a h1 h2 => ?_) (fun J4 M4 f4 => ?_)) (by decide)
  · simp (disch := omega) only [rN_o, rSf_o]
    exact hR a (by omega) (by omega)
  conv => whnf
  refine ⟨show vp_in (nI 2) 4 from lm_in (by decide), ?_⟩
  conv => whnf
  refine ⟨fun q => absurd q (show ¬ nI 4 ≤ nI 3 from by decide), fun _ => ?_⟩
  conv => whnf
  refine ⟨show 1 ≤ 51 from by decide, show 4 ≤ 7003 from by decide, 1, 60, show 1 ≤ 50 from by decide, show 60 ≤ 6999 from by decide, ?_⟩
  show am_C am_P 9 mi_X2_init [.ref 35] (am_new (J4, M4, rSf 28 2 33 (rSf 28 1 31 (rSf 28 0 29 (rSf 0 2 28 (rN 28 (rSf 0 1 27 (rN 27 (rSf 0 0 3 (rSf 0 11 2 (rN 2 (rN 0 R)))))))))), 22)) 1 60 _
  refine am_C_d (k_X2_35 (fun a h1 h2 => ?_) (fun J5 M5 f5 => ?_)) (by decide)
  · simp (disch := omega) only [rN_o, rSf_o]
    exact hR a (by omega) (by omega)
  conv => whnf
  refine ⟨show vp_in (nI 3) 4 from lm_in (by decide), ?_⟩
  conv => whnf
  refine ⟨fun _ => ?_, fun q => absurd (show nI 4 ≤ nI 4 from by decide) q⟩
  conv => whnf
  refine ⟨show 1 ≤ 49 from by decide, show 8 ≤ 6939 from by decide, 13, 3434, show 13 ≤ 48 from by decide, show 3434 ≤ 6931 from by decide, ?_⟩
  show am_C am_P 9 mi_X4_init [.ref 37] (am_new (J5, M5, rSf 28 3 35 (rSf 28 2 33 (rSf 28 1 31 (rSf 28 0 29 (rSf 0 2 28 (rN 28 (rSf 0 1 27 (rN 27 (rSf 0 0 3 (rSf 0 11 2 (rN 2 (rN 0 R))))))))))), 24)) 13 3434 _
  refine am_C_d (k_X4_37 (fun a h1 => ?_) (fun J6 M6 f6 g2 g6 g7 gz => ?_)) (by decide)
  · simp (disch := omega) only [rN_o, rSf_o]
    exact hR a (by omega) (by omega)
  conv => whnf
  refine ⟨show 1 ≤ 35 from by decide, show 6 ≤ 3497 from by decide, 4, 232, show 4 ≤ 34 from by decide, show 232 ≤ 3491 from by decide, ?_⟩
  show am_C am_P 9 mi_X9_init [.ref 38] (am_new (J6, M6, rSf 0 3 37 (rSf 28 3 35 (rSf 28 2 33 (rSf 28 1 31 (rSf 28 0 29 (rSf 0 2 28 (rN 28 (rSf 0 1 27 (rN 27 (rSf 0 0 3 (rSf 0 11 2 (rN 2 (rN 0 R)))))))))))), 38)) 4 232 _
  refine am_C_d (k_X9_38 (fun a h1 h2 => ?_) (fun J7 M7 f7 => ?_)) (by decide)
  · simp (disch := omega) only [rN_o, rSf_o]
    exact hR a (by omega) (by omega)
  conv => whnf
  refine ⟨show 1 ≤ 30 from by decide, show 6 ≤ 3259 from by decide, 4, 704, show 4 ≤ 29 from by decide, show 704 ≤ 3253 from by decide, ?_⟩
  show am_C am_P 9 mi_X6_init [.ref 43] (am_new (J7, M7, rSf 0 4 38 (rSf 0 3 37 (rSf 28 3 35 (rSf 28 2 33 (rSf 28 1 31 (rSf 28 0 29 (rSf 0 2 28 (rN 28 (rSf 0 1 27 (rN 27 (rSf 0 0 3 (rSf 0 11 2 (rN 2 (rN 0 R))))))))))))), 43)) 4 704 _
  refine am_C_d (k_X6_43 (fun a h1 h2 => ?_) (fun J8 M8 f8 => ?_)) (by decide)
  · simp (disch := omega) only [rN_o, rSf_o]
    exact hR a (by omega) (by omega)
  conv => whnf
  refine ⟨show 1 ≤ 25 from by decide, show 4 ≤ 2549 from by decide, 2, 518, show 2 ≤ 24 from by decide, show 518 ≤ 2545 from by decide, ?_⟩
  show am_C am_P 9 mi_X0_init [.ref 48] (am_new (J8, M8, rSf 0 5 43 (rSf 0 4 38 (rSf 0 3 37 (rSf 28 3 35 (rSf 28 2 33 (rSf 28 1 31 (rSf 28 0 29 (rSf 0 2 28 (rN 28 (rSf 0 1 27 (rN 27 (rSf 0 0 3 (rSf 0 11 2 (rN 2 (rN 0 R)))))))))))))), 48)) 2 518 _
  refine am_C_d (k_X0_48 (fun a h1 h2 => ?_) (fun J9 M9 f9 => ?_)) (by decide)
  · simp (disch := omega) only [rN_o, rSf_o]
    exact hR a (by omega) (by omega)
  conv => whnf
  refine ⟨show 1 ≤ 22 from by decide, show 6 ≤ 2027 from by decide, 10, 770, show 10 ≤ 21 from by decide, show 770 ≤ 2021 from by decide, ?_⟩
  show am_C am_P 9 mi_X3_init [.ref 51] (am_new (J9, M9, rSf 0 6 48 (rSf 0 5 43 (rSf 0 4 38 (rSf 0 3 37 (rSf 28 3 35 (rSf 28 2 33 (rSf 28 1 31 (rSf 28 0 29 (rSf 0 2 28 (rN 28 (rSf 0 1 27 (rN 27 (rSf 0 0 3 (rSf 0 11 2 (rN 2 (rN 0 R))))))))))))))), 51)) 10 770 _
  refine am_C_d (k_X3_51 (fun a h1 h2 => ?_) (fun J10 M10 f10 => ?_)) (by decide)
  · simp (disch := omega) only [rN_o, rSf_o]
    exact hR a (by omega) (by omega)
  conv => whnf
  refine ⟨show 1 ≤ 11 from by decide, show 2 ≤ 1251 from by decide, 2, 16, show 2 ≤ 10 from by decide, show 16 ≤ 1249 from by decide, ?_⟩
  show am_C am_P 9 mi_X8_init [.ref 62] (am_new (J10, M10, rSf 0 7 51 (rSf 0 6 48 (rSf 0 5 43 (rSf 0 4 38 (rSf 0 3 37 (rSf 28 3 35 (rSf 28 2 33 (rSf 28 1 31 (rSf 28 0 29 (rSf 0 2 28 (rN 28 (rSf 0 1 27 (rN 27 (rSf 0 0 3 (rSf 0 11 2 (rN 2 (rN 0 R)))))))))))))))), 62)) 2 16 _
  refine am_C_d (k_X8_62 (fun a h1 h2 => ?_) (fun J11 M11 f11 => ?_)) (by decide)
  · simp (disch := omega) only [rN_o, rSf_o]
    exact hR a (by omega) (by omega)
  conv => whnf
  refine ⟨show 1 ≤ 8 from by decide, show 4 ≤ 1233 from by decide, 4, 704, show 4 ≤ 7 from by decide, show 704 ≤ 1229 from by decide, ?_⟩
  show am_C am_P 9 mi_X1_init [.ref 65] (am_new (J11, M11, rSf 0 8 62 (rSf 0 7 51 (rSf 0 6 48 (rSf 0 5 43 (rSf 0 4 38 (rSf 0 3 37 (rSf 28 3 35 (rSf 28 2 33 (rSf 28 1 31 (rSf 28 0 29 (rSf 0 2 28 (rN 28 (rSf 0 1 27 (rN 27 (rSf 0 0 3 (rSf 0 11 2 (rN 2 (rN 0 R))))))))))))))))), 65)) 4 704 _
  refine am_C_d (k_X1_65 (fun a h1 h2 => ?_) (fun J12 M12 f12 => ?_)) (by decide)
  · simp (disch := omega) only [rN_o, rSf_o]
    exact hR a (by omega) (by omega)
  conv => whnf
  refine ⟨show 1 ≤ 3 from by decide, show 5 ≤ 525 from by decide, 2, 520, show 2 ≤ 2 from by decide, show 520 ≤ 520 from by decide, ?_⟩
  show am_C am_P 9 mi_X5_init [.ref 70] (am_new (J12, M12, rSf 0 9 65 (rSf 0 8 62 (rSf 0 7 51 (rSf 0 6 48 (rSf 0 5 43 (rSf 0 4 38 (rSf 0 3 37 (rSf 28 3 35 (rSf 28 2 33 (rSf 28 1 31 (rSf 28 0 29 (rSf 0 2 28 (rN 28 (rSf 0 1 27 (rN 27 (rSf 0 0 3 (rSf 0 11 2 (rN 2 (rN 0 R)))))))))))))))))), 70)) 2 520 _
  refine am_C_d (k_X5_70 (fun a h1 h2 => ?_) (fun J13 M13 f13 => ?_)) (by decide)
  · simp (disch := omega) only [rN_o, rSf_o]
    exact hR a (by omega) (by omega)
  conv => whnf
  refine ⟨rfl, ?_⟩
  show Post none (iS 0 13 (-1 : Int32) (J13), M13, rSf 0 10 70 (rSf 0 9 65 (rSf 0 8 62 (rSf 0 7 51 (rSf 0 6 48 (rSf 0 5 43 (rSf 0 4 38 (rSf 0 3 37 (rSf 28 3 35 (rSf 28 2 33 (rSf 28 1 31 (rSf 28 0 29 (rSf 0 2 28 (rN 28 (rSf 0 1 27 (rN 27 (rSf 0 0 3 (rSf 0 11 2 (rN 2 (rN 0 R))))))))))))))))))), 73)
  rw [hRr]
  have low : ∀ a, 73 ≤ a → J13 a = I a := by
    intro a ha
    rw [f13.1 a (by omega)]
    rw [f12.1 a (by omega)]
    rw [f11.1 a (by omega)]
    rw [f10.1 a (by omega)]
    rw [f9.1 a (by omega)]
    rw [f8.1 a (by omega)]
    rw [f7.1 a (by omega)]
    rw [f6 a (by omega) (by omega) (by omega)]
    rw [f5.1 a (by omega)]
    rw [f4.1 a (by omega)]
    rw [f3.1 a (by omega)]
    rw [f2.1 a (by omega)]
    simp (disch := omega) only [iN_o, iS_o]
    rw [f1.1 a (by omega)]
    simp (disch := omega) only [iN_o, iS_o]
  have r0 : J13 0 = (iN 2 (iN 0 I)) 0 := by
    rw [f13.1 0 (by omega)]
    rw [f12.1 0 (by omega)]
    rw [f11.1 0 (by omega)]
    rw [f10.1 0 (by omega)]
    rw [f9.1 0 (by omega)]
    rw [f8.1 0 (by omega)]
    rw [f7.1 0 (by omega)]
    rw [f6 0 (by omega) (by omega) (by omega)]
    rw [f5.1 0 (by omega)]
    rw [f4.1 0 (by omega)]
    rw [f3.1 0 (by omega)]
    rw [f2.1 0 (by omega)]
    simp (disch := omega) only [iN_o, iS_o]
    rw [f1.1 0 (by omega)]
    rfl
  have r37 : J13 37 = J6 37 := by
    rw [f13.1 37 (by omega)]
    rw [f12.1 37 (by omega)]
    rw [f11.1 37 (by omega)]
    rw [f10.1 37 (by omega)]
    rw [f9.1 37 (by omega)]
    rw [f8.1 37 (by omega)]
    rw [f7.1 37 (by omega)]
  have r1 : J13 1 = J6 1 := by
    rw [f13.1 1 (by omega)]
    rw [f12.1 1 (by omega)]
    rw [f11.1 1 (by omega)]
    rw [f10.1 1 (by omega)]
    rw [f9.1 1 (by omega)]
    rw [f8.1 1 (by omega)]
    rw [f7.1 1 (by omega)]
  have z3 : ∀ k, J13 3 k = 0 := by
    intro k
    rw [f13.1 3 (by omega)]
    rw [f12.1 3 (by omega)]
    rw [f11.1 3 (by omega)]
    rw [f10.1 3 (by omega)]
    rw [f9.1 3 (by omega)]
    rw [f8.1 3 (by omega)]
    rw [f7.1 3 (by omega)]
    rw [f6 3 (by omega) (by omega) (by omega)]
    rw [f5.1 3 (by omega)]
    rw [f4.1 3 (by omega)]
    rw [f3.1 3 (by omega)]
    rw [f2.1 3 (by omega)]
    simp (disch := omega) only [iN_o, iS_o]
    exact f1.2 3 (by decide) (by decide) k
  have z4 : ∀ k, J13 4 k = 0 := by
    intro k
    rw [f13.1 4 (by omega)]
    rw [f12.1 4 (by omega)]
    rw [f11.1 4 (by omega)]
    rw [f10.1 4 (by omega)]
    rw [f9.1 4 (by omega)]
    rw [f8.1 4 (by omega)]
    rw [f7.1 4 (by omega)]
    rw [f6 4 (by omega) (by omega) (by omega)]
    rw [f5.1 4 (by omega)]
    rw [f4.1 4 (by omega)]
    rw [f3.1 4 (by omega)]
    rw [f2.1 4 (by omega)]
    simp (disch := omega) only [iN_o, iS_o]
    exact f1.2 4 (by decide) (by decide) k
  have z5 : ∀ k, J13 5 k = 0 := by
    intro k
    rw [f13.1 5 (by omega)]
    rw [f12.1 5 (by omega)]
    rw [f11.1 5 (by omega)]
    rw [f10.1 5 (by omega)]
    rw [f9.1 5 (by omega)]
    rw [f8.1 5 (by omega)]
    rw [f7.1 5 (by omega)]
    rw [f6 5 (by omega) (by omega) (by omega)]
    rw [f5.1 5 (by omega)]
    rw [f4.1 5 (by omega)]
    rw [f3.1 5 (by omega)]
    rw [f2.1 5 (by omega)]
    simp (disch := omega) only [iN_o, iS_o]
    exact f1.2 5 (by decide) (by decide) k
  have z29 : ∀ k, J13 29 k = 0 := by
    intro k
    rw [f13.1 29 (by omega)]
    rw [f12.1 29 (by omega)]
    rw [f11.1 29 (by omega)]
    rw [f10.1 29 (by omega)]
    rw [f9.1 29 (by omega)]
    rw [f8.1 29 (by omega)]
    rw [f7.1 29 (by omega)]
    rw [f6 29 (by omega) (by omega) (by omega)]
    rw [f5.1 29 (by omega)]
    rw [f4.1 29 (by omega)]
    rw [f3.1 29 (by omega)]
    exact f2.2 29 (by decide) (by decide) k
  have z31 : ∀ k, J13 31 k = 0 := by
    intro k
    rw [f13.1 31 (by omega)]
    rw [f12.1 31 (by omega)]
    rw [f11.1 31 (by omega)]
    rw [f10.1 31 (by omega)]
    rw [f9.1 31 (by omega)]
    rw [f8.1 31 (by omega)]
    rw [f7.1 31 (by omega)]
    rw [f6 31 (by omega) (by omega) (by omega)]
    rw [f5.1 31 (by omega)]
    rw [f4.1 31 (by omega)]
    exact f3.2 31 (by decide) (by decide) k
  have z33 : ∀ k, J13 33 k = 0 := by
    intro k
    rw [f13.1 33 (by omega)]
    rw [f12.1 33 (by omega)]
    rw [f11.1 33 (by omega)]
    rw [f10.1 33 (by omega)]
    rw [f9.1 33 (by omega)]
    rw [f8.1 33 (by omega)]
    rw [f7.1 33 (by omega)]
    rw [f6 33 (by omega) (by omega) (by omega)]
    rw [f5.1 33 (by omega)]
    exact f4.2 33 (by decide) (by decide) k
  have z35 : ∀ k, J13 35 k = 0 := by
    intro k
    rw [f13.1 35 (by omega)]
    rw [f12.1 35 (by omega)]
    rw [f11.1 35 (by omega)]
    rw [f10.1 35 (by omega)]
    rw [f9.1 35 (by omega)]
    rw [f8.1 35 (by omega)]
    rw [f7.1 35 (by omega)]
    rw [f6 35 (by omega) (by omega) (by omega)]
    exact f5.2 35 (by decide) (by decide) k
  refine h _ _ (fun a ha => ?_) ?_ ?_ ?_ ?_ ?_ (fun k => ?_) (fun k => ?_) (fun k => ?_) (fun k => ?_) (fun s hs k => ?_)
  · simp (disch := omega) only [iN_o, iS_o]
    exact low a ha
  · show J13 37 2 = 0
    rw [r37]; exact g2
  · show J13 37 6 = 0
    rw [r37]; exact g6
  · show J13 37 7 = (-1 : Int32)
    rw [r37]; exact g7
  · show J13 0 12 = 0
    rw [r0]; rfl
  · rfl
  · show J13 1 k = 0
    rw [r1]; exact gz k
  · exact z3 k
  · exact z4 k
  · exact z5 k
  · obtain rfl | rfl | rfl | rfl : s = 0 ∨ s = 1 ∨ s = 2 ∨ s = 3 := by omega
    · exact z29 k
    · exact z31 k
    · exact z33 k
    · exact z35 k
set_option maxRecDepth 200000 in
set_option maxHeartbeats 4000000 in
theorem k_X11 {I : Nat → Nat → Int32} {L : Nat → Nat → Int64} {R : Nat → Nat → Option Nat} {Post : Option Value → am_S → Prop} (hR : ∀ a, 73 ≤ a → a < 97 → R a = tabr a) (h : ∀ J M, (∀ a, (a < 73 ∨ 97 ≤ a) → J a = I a) → (∀ k, k ≠ 15 → J 73 k = 0) → J 73 15 = (-1 : Int32) → (∀ k, k < 4 → J 74 k = (-1 : Int32)) → (∀ a, 75 ≤ a → a < 97 → ∀ k, J a k = 0) → Post none (J, M, R, 97)) : am_C am_P 9 mi_X11_init [.ref 73] (am_new (I, L, R, 73)) 23 9355 Post := by
  have hRr : rSf 73 39 96 (rN 96 (rSf 73 36 95 (rN 95 (rSf 73 33 94 (rN 94 (rSf 73 32 93 (rN 93 (rSf 73 31 92 (rN 92 (rSf 73 30 91 (rN 91 (rSf 73 29 90 (rN 90 (rSf 73 26 89 (rN 89 (rSf 73 25 88 (rN 88 (rSf 73 24 87 (rN 87 (rSf 73 23 86 (rN 86 (rSf 73 22 85 (rN 85 (rSf 73 21 84 (rN 84 (rSf 73 20 83 (rN 83 (rSf 73 19 82 (rN 82 (rSf 73 18 81 (rN 81 (rSf 73 17 80 (rN 80 (rSf 73 16 79 (rN 79 (rSf 73 5 78 (rN 78 (rSf 73 4 77 (rN 77 (rSf 73 3 76 (rN 76 (rSf 73 2 75 (rN 75 (rSf 73 1 74 (rN 74 (rN 73 R)))))))))))))))))))))))))))))))))))))))))))))) = R := by
    funext a
    by_cases h73 : a = 73
    · subst h73
      rw [hR 73 (by decide) (by decide)]
      funext j
      match j with
      | 0 => rfl
      | 1 => rfl
      | 2 => rfl
      | 3 => rfl
      | 4 => rfl
      | 5 => rfl
      | 6 => rfl
      | 7 => rfl
      | 8 => rfl
      | 9 => rfl
      | 10 => rfl
      | 11 => rfl
      | 12 => rfl
      | 13 => rfl
      | 14 => rfl
      | 15 => rfl
      | 16 => rfl
      | 17 => rfl
      | 18 => rfl
      | 19 => rfl
      | 20 => rfl
      | 21 => rfl
      | 22 => rfl
      | 23 => rfl
      | 24 => rfl
      | 25 => rfl
      | 26 => rfl
      | 27 => rfl
      | 28 => rfl
      | 29 => rfl
      | 30 => rfl
      | 31 => rfl
      | 32 => rfl
      | 33 => rfl
      | 34 => rfl
      | 35 => rfl
      | 36 => rfl
      | 37 => rfl
      | 38 => rfl
      | 39 => rfl
      | 40 => rfl
      | 41 => rfl
      | 42 => rfl
      | 43 => rfl
      | 44 => rfl
      | 45 => rfl
      | j + 46 => rfl
    by_cases h74 : a = 74
    · subst h74
      rw [hR 74 (by decide) (by decide)]
      funext j
      rfl
    by_cases h75 : a = 75
    · subst h75
      rw [hR 75 (by decide) (by decide)]
      funext j
      rfl
    by_cases h76 : a = 76
    · subst h76
      rw [hR 76 (by decide) (by decide)]
      funext j
      rfl
    by_cases h77 : a = 77
    · subst h77
      rw [hR 77 (by decide) (by decide)]
      funext j
      rfl
    by_cases h78 : a = 78
    · subst h78
      rw [hR 78 (by decide) (by decide)]
      funext j
      rfl
    by_cases h79 : a = 79
    · subst h79
      rw [hR 79 (by decide) (by decide)]
      funext j
      rfl
    by_cases h80 : a = 80
    · subst h80
      rw [hR 80 (by decide) (by decide)]
      funext j
      rfl
    by_cases h81 : a = 81
    · subst h81
      rw [hR 81 (by decide) (by decide)]
      funext j
      rfl
    by_cases h82 : a = 82
    · subst h82
      rw [hR 82 (by decide) (by decide)]
      funext j
      rfl
    by_cases h83 : a = 83
    · subst h83
      rw [hR 83 (by decide) (by decide)]
      funext j
      rfl
    by_cases h84 : a = 84
    · subst h84
      rw [hR 84 (by decide) (by decide)]
      funext j
      rfl
    by_cases h85 : a = 85
    · subst h85
      rw [hR 85 (by decide) (by decide)]
      funext j
      rfl
    by_cases h86 : a = 86
    · subst h86
      rw [hR 86 (by decide) (by decide)]
      funext j
      rfl
    by_cases h87 : a = 87
    · subst h87
      rw [hR 87 (by decide) (by decide)]
      funext j
      rfl
    by_cases h88 : a = 88
    · subst h88
      rw [hR 88 (by decide) (by decide)]
      funext j
      rfl
    by_cases h89 : a = 89
    · subst h89
      rw [hR 89 (by decide) (by decide)]
      funext j
      rfl
    by_cases h90 : a = 90
    · subst h90
      rw [hR 90 (by decide) (by decide)]
      funext j
      rfl
    by_cases h91 : a = 91
    · subst h91
      rw [hR 91 (by decide) (by decide)]
      funext j
      rfl
    by_cases h92 : a = 92
    · subst h92
      rw [hR 92 (by decide) (by decide)]
      funext j
      rfl
    by_cases h93 : a = 93
    · subst h93
      rw [hR 93 (by decide) (by decide)]
      funext j
      rfl
    by_cases h94 : a = 94
    · subst h94
      rw [hR 94 (by decide) (by decide)]
      funext j
      rfl
    by_cases h95 : a = 95
    · subst h95
      rw [hR 95 (by decide) (by decide)]
      funext j
      rfl
    by_cases h96 : a = 96
    · subst h96
      rw [hR 96 (by decide) (by decide)]
      funext j
      rfl
    simp only [rSf, rN, va_up, h73, h74, h75, h76, h77, h78, h79, h80, h81, h82, h83, h84, h85, h86, h87, h88, h89, h90, h91, h92, h93, h94, h95, h96, if_false]
  refine am_run_ok am_OK (by decide) [] 600 _ _ _ _ _ _ ?_
  conv => whnf
  refine ⟨rfl, show 1 ≤ 23 from by decide, show 4 ≤ 9355 from by decide, ?_⟩
  conv => whnf
  refine ⟨rfl, show 1 ≤ 22 from by decide, show 4 ≤ 9351 from by decide, ?_⟩
  conv => whnf
  refine ⟨rfl, show 1 ≤ 21 from by decide, show 240 ≤ 9347 from by decide, ?_⟩
  conv => whnf
  refine ⟨rfl, show 1 ≤ 20 from by decide, show 60 ≤ 9107 from by decide, ?_⟩
  conv => whnf
  refine ⟨rfl, show 1 ≤ 19 from by decide, show 1600 ≤ 9047 from by decide, ?_⟩
  conv => whnf
  refine ⟨rfl, show 1 ≤ 18 from by decide, show 5 ≤ 7447 from by decide, ?_⟩
  conv => whnf
  refine ⟨rfl, show 1 ≤ 17 from by decide, show 25 ≤ 7442 from by decide, ?_⟩
  conv => whnf
  refine ⟨rfl, show 1 ≤ 16 from by decide, show 320 ≤ 7417 from by decide, ?_⟩
  conv => whnf
  refine ⟨rfl, show 1 ≤ 15 from by decide, show 2560 ≤ 7097 from by decide, ?_⟩
  conv => whnf
  refine ⟨rfl, show 1 ≤ 14 from by decide, show 2560 ≤ 4537 from by decide, ?_⟩
  conv => whnf
  refine ⟨rfl, show 1 ≤ 13 from by decide, show 90 ≤ 1977 from by decide, ?_⟩
  conv => whnf
  refine ⟨rfl, show 1 ≤ 12 from by decide, show 600 ≤ 1887 from by decide, ?_⟩
  conv => whnf
  refine ⟨rfl, show 1 ≤ 11 from by decide, show 3 ≤ 1287 from by decide, ?_⟩
  conv => whnf
  refine ⟨rfl, show 1 ≤ 10 from by decide, show 512 ≤ 1284 from by decide, ?_⟩
  conv => whnf
  refine ⟨rfl, show 1 ≤ 9 from by decide, show 64 ≤ 772 from by decide, ?_⟩
  conv => whnf
  refine ⟨rfl, show 1 ≤ 8 from by decide, show 40 ≤ 708 from by decide, ?_⟩
  conv => whnf
  refine ⟨rfl, show 1 ≤ 7 from by decide, show 512 ≤ 668 from by decide, ?_⟩
  conv => whnf
  refine ⟨rfl, show 1 ≤ 6 from by decide, show 64 ≤ 156 from by decide, ?_⟩
  conv => whnf
  refine ⟨rfl, show 1 ≤ 5 from by decide, show 64 ≤ 92 from by decide, ?_⟩
  conv => whnf
  refine ⟨rfl, show 1 ≤ 4 from by decide, show 6 ≤ 28 from by decide, ?_⟩
  conv => whnf
  refine ⟨rfl, show 1 ≤ 3 from by decide, show 6 ≤ 22 from by decide, ?_⟩
  conv => whnf
  refine ⟨rfl, show 1 ≤ 2 from by decide, show 6 ≤ 16 from by decide, ?_⟩
  conv => whnf
  refine ⟨rfl, show 1 ≤ 1 from by decide, show 10 ≤ 10 from by decide, ?_⟩
  conv => whnf
  refine ⟨fun q => absurd q (show ¬ nI 4 ≤ nI 0 from by decide), fun _ => ?_⟩
  conv => whnf
  refine ⟨show vp_in (nI 0) 4 from lm_in (by decide), ?_⟩
  conv => whnf
  refine ⟨fun q => absurd q (show ¬ nI 4 ≤ nI 1 from by decide), fun _ => ?_⟩
  conv => whnf
  refine ⟨show vp_in (nI 1) 4 from lm_in (by decide), ?_⟩
  conv => whnf
  refine ⟨fun q => absurd q (show ¬ nI 4 ≤ nI 2 from by decide), fun _ => ?_⟩
  conv => whnf
  refine ⟨show vp_in (nI 2) 4 from lm_in (by decide), ?_⟩
  conv => whnf
  refine ⟨fun q => absurd q (show ¬ nI 4 ≤ nI 3 from by decide), fun _ => ?_⟩
  conv => whnf
  refine ⟨show vp_in (nI 3) 4 from lm_in (by decide), ?_⟩
  conv => whnf
  refine ⟨fun _ => ?_, fun q => absurd (show nI 4 ≤ nI 4 from by decide) q⟩
  conv => whnf
  refine ⟨rfl, ?_⟩
  show Post none (iS 74 3 (-1 : Int32) (iS 74 2 (-1 : Int32) (iS 74 1 (-1 : Int32) (iS 74 0 (-1 : Int32) (iN 96 (iN 95 (iN 94 (iN 93 (iN 92 (iN 91 (iN 90 (iN 89 (iN 88 (iN 87 (iN 86 (iN 85 (iN 84 (iN 83 (iN 82 (iN 81 (iN 80 (iN 79 (iS 73 15 (-1 : Int32) (iN 78 (iN 77 (iN 76 (iN 75 (iN 74 (iN 73 I)))))))))))))))))))))))))))), lN0 96 (lN0 95 (lN0 94 (lN0 93 (lN0 92 (lN0 91 (lN0 90 (lN0 89 (lN0 88 (lN0 87 (lN0 86 (lN0 85 (lN0 84 (lN0 83 (lN0 82 (lN0 81 (lN0 80 (lN0 79 (lN0 78 (lN0 77 (lN0 76 (lN0 75 (lN0 74 (lN0 73 L))))))))))))))))))))))), rSf 73 39 96 (rN 96 (rSf 73 36 95 (rN 95 (rSf 73 33 94 (rN 94 (rSf 73 32 93 (rN 93 (rSf 73 31 92 (rN 92 (rSf 73 30 91 (rN 91 (rSf 73 29 90 (rN 90 (rSf 73 26 89 (rN 89 (rSf 73 25 88 (rN 88 (rSf 73 24 87 (rN 87 (rSf 73 23 86 (rN 86 (rSf 73 22 85 (rN 85 (rSf 73 21 84 (rN 84 (rSf 73 20 83 (rN 83 (rSf 73 19 82 (rN 82 (rSf 73 18 81 (rN 81 (rSf 73 17 80 (rN 80 (rSf 73 16 79 (rN 79 (rSf 73 5 78 (rN 78 (rSf 73 4 77 (rN 77 (rSf 73 3 76 (rN 76 (rSf 73 2 75 (rN 75 (rSf 73 1 74 (rN 74 (rN 73 R)))))))))))))))))))))))))))))))))))))))))))))), 97)
  rw [hRr]
  refine h _ _ (fun a ha => ?_) (fun k hk => ?_) rfl (fun k hk => ?_) (fun a h1 h2 => ?_)
  · simp (disch := omega) only [iN_o, iS_o]
  · show va_up (fun _ => (0 : Int32)) 15 (-1 : Int32) k = 0
    rw [up_n hk]
  · obtain rfl | rfl | rfl | rfl : k = 0 ∨ k = 1 ∨ k = 2 ∨ k = 3 := by omega
    all_goals rfl
  · intro j
    by_cases h75 : a = 75
    · subst h75; rfl
    by_cases h76 : a = 76
    · subst h76; rfl
    by_cases h77 : a = 77
    · subst h77; rfl
    by_cases h78 : a = 78
    · subst h78; rfl
    by_cases h79 : a = 79
    · subst h79; rfl
    by_cases h80 : a = 80
    · subst h80; rfl
    by_cases h81 : a = 81
    · subst h81; rfl
    by_cases h82 : a = 82
    · subst h82; rfl
    by_cases h83 : a = 83
    · subst h83; rfl
    by_cases h84 : a = 84
    · subst h84; rfl
    by_cases h85 : a = 85
    · subst h85; rfl
    by_cases h86 : a = 86
    · subst h86; rfl
    by_cases h87 : a = 87
    · subst h87; rfl
    by_cases h88 : a = 88
    · subst h88; rfl
    by_cases h89 : a = 89
    · subst h89; rfl
    by_cases h90 : a = 90
    · subst h90; rfl
    by_cases h91 : a = 91
    · subst h91; rfl
    by_cases h92 : a = 92
    · subst h92; rfl
    by_cases h93 : a = 93
    · subst h93; rfl
    by_cases h94 : a = 94
    · subst h94; rfl
    by_cases h95 : a = 95
    · subst h95; rfl
    have h96 : a = 96 := by omega
    subst h96; rfl
/-- behind the two constructors -/
theorem Rel_0 {I : Nat → Nat → Int32} {L : Nat → Nat → Int64} {sl : Nat} (h1 : I 37 2 = 0) (h2 : I 37 6 = 0) (h3 : I 37 7 = (-1 : Int32)) (h17 : I 0 12 = 0) (h18 : I 0 13 = (-1 : Int32)) (hz1 : ∀ k, I 1 k = 0) (hz3 : ∀ k, I 3 k = 0) (hz4 : ∀ k, I 4 k = 0) (hz5 : ∀ k, I 5 k = 0) (hzs : ∀ s, s < 4 → ∀ k, I (29 + 2 * s) k = 0) (hm : ∀ k, k ≠ 15 → I 73 k = 0) (hm15 : I 73 15 = (-1 : Int32)) (hm74 : ∀ k, k < 4 → I 74 k = (-1 : Int32)) (hmz : ∀ a, 75 ≤ a → a < 97 → ∀ k, I a k = 0) {B : tw → Nat × Nat × (Nat → Nat)} : Rel B ((none, none, none), sl, 97) t0z I L 0 := by
  have hnb : ∀ x, (nb t0z x).length = 0 := fun x => by rw [cn_fl]; exact cn_z (fun _ _ => rfl)
  have har : (ar t0z).length = 0 := by rw [cn_fl]; exact cn_z (fun _ _ => rfl)
  have htu : (tu t0z).length = 0 := by rw [cn_fl]; exact cn_z (fun _ _ => rfl)
  refine ⟨tok_0, ⟨hz3 0, hz3 1, hz3 2, hz3 3, ?_, ?_, ?_, hz3 7, hz3 8, fun k _ => hz4 k, fun x _ => ?_, fun x _ i hi => ?_, fun i hi => ?_, fun i hi => ?_, (fun k _ h => by cases h), (fun k _ h => by cases h), fun j h => absurd h (Nat.not_lt_zero _), fun j h => absurd h (Nat.not_lt_zero _), fun j h => absurd h (Nat.not_lt_zero _), fun j h => absurd h (Nat.not_lt_zero _)⟩, ⟨hmz 79 (by decide) (by decide) 0, hmz 80 (by decide) (by decide) 0, hmz 80 (by decide) (by decide) 1, hmz 80 (by decide) (by decide) 2, hmz 80 (by decide) (by decide) 3, hmz 80 (by decide) (by decide) 4, fun k _ => hmz 81 (by decide) (by decide) k, fun k _ => hmz 82 (by decide) (by decide) k, fun k _ => hmz 83 (by decide) (by decide) k, fun j h => absurd h (Nat.not_lt_zero _), fun j h => absurd h (Nat.not_lt_zero _), fun j h => absurd h (Nat.not_lt_zero _), fun j h => absurd h (Nat.not_lt_zero _), fun j h => absurd h (Nat.not_lt_zero _)⟩, ⟨0, by decide, h1, hm 6 (by decide), fun k _ => by rw [hz1, hmz 78 (by decide) (by decide)], by rw [h2, hm 14 (by decide)], by rw [h3, hm15]⟩, fun s hs => Or.inl ⟨hzs s hs 1, hm74 s hs⟩, ⟨fun k hk => ?_, fun k k' b hk _ e1 => ?_, Or.inl rfl, rfl⟩, ⟨0, Nat.le_refl _, h17, Or.inl h18, fun h => ?_⟩⟩
  · rw [har]; exact hz3 4
  · rw [har]; exact hz3 5
  · rw [htu]; exact hz3 6
  · rw [hnb]; exact hz5 x
  · rw [hnb] at hi; exact absurd hi (Nat.not_lt_zero _)
  · rw [har] at hi; exact absurd hi (Nat.not_lt_zero _)
  · rw [htu] at hi; exact absurd hi (Nat.not_lt_zero _)
  · obtain rfl | rfl | rfl : k = 0 ∨ k = 1 ∨ k = 2 := by omega
    · exact hmz 86 (by decide) (by decide) 0
    · exact hmz 86 (by decide) (by decide) 1
    · exact hmz 86 (by decide) (by decide) 2
  · obtain rfl | rfl | rfl : k = 0 ∨ k = 1 ∨ k = 2 := by omega
    all_goals cases e1
  · rw [h17, h18] at h
    exact absurd h (by decide)
