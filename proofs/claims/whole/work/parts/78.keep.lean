/-! keep, back -/
theorem klt3 {v : Int32} : v < nI 3 ↔ v ≤ nI 2 := by
  rw [Int32.lt_iff_toInt_lt, Int32.le_iff_toInt_le, nI_toInt (by decide), nI_toInt (by decide)]
  omega
theorem k10 : ((1 : Nat) = 0) = False := eq_false (by decide)
theorem m_back {e : am_V} {J : Nat → Nat → Int32} {L : Nat → Nat → Int64} {k : Nat} {Q : Int32 → (Nat → Nat → Int32) → Prop} (hk : k < 3) (h86 : J 86 k = nI 1) (hQ : ∀ K, cpW (1 + k) 0 (va_up J 73 (va_up (J 73) 0 (nI 0))) K → Q (nI 0) K) : C_X11_back_73 e (nI k) J L Q := by
  have g : (k ≤ 2) = True := eq_true (by omega)
  refine b_X11_back_73 ?_
  simp (disch := omega) only [pk_mul, nI_add, ksub, kdv, kd8, kd64, kd2, kd3, km8, km64, kt8, ke8, ke64, kcl, kin, kle, klt, keq, up_s, up_n, up_u, true_and, and_true, false_implies, true_implies, not_false_eq_true, not_true_eq_false, kzl, knl, kl2, g, h86, k10]
  exact c_copyTown (by omega) (by omega) (by omega) hQ
theorem m_keep {e : am_V} {J : Nat → Nat → Int32} {L : Nat → Nat → Int64} {k : Nat} {Q : Int32 → (Nat → Nat → Int32) → Prop} (hk : k < 3) (hQ : ∀ K, cpW 0 (1 + k) (va_up J 73 (va_up (J 73) 0 (nI 0))) K → Q (nI 0) (va_up K 86 (va_up (K 86) k (nI 1)))) : C_X11_keep_73 e (nI k) J L Q := by
  have g : (k ≤ 2) = True := eq_true (by omega)
  refine b_X11_keep_73 ?_
  simp (disch := omega) only [pk_mul, nI_add, ksub, kdv, kd8, kd64, kd2, kd3, km8, km64, kt8, ke8, ke64, kcl, kin, kle, klt, keq, up_s, up_n, up_u, true_and, and_true, false_implies, true_implies, not_false_eq_true, not_true_eq_false, kzl, knl, kl2, g]
  exact c_copyTown (by omega) (by omega) (by omega) hQ
theorem Rel_kp {B : tw → Nat × Nat × (Nat → Nat)} {e e' : am_V} {t : tw} {I J K : Nat → Nat → Int32} {L L' : Nat → Nat → Int64} {m k b : Nat} (hR : Rel B e t I L m) (hk : k < 3) (hb : b = 97 ∨ b = 109 ∨ b = 121) (hJ : CTb b t J) (hfr : ∀ a, (a < b ∨ b + 11 < a) → J a = I a) (hcp : cpW 0 (1 + k) (va_up J 73 (va_up (J 73) 0 (nI 0))) K) (hL : ∀ a, a < 97 → L' a = L a) (he : am_im e'.1 k = some b) (heo : ∀ k', k' < 3 → k' ≠ k → am_im e'.1 k' = am_im e.1 k') (hn : b + 12 ≤ e'.2.2) (hn2 : e.2.2 ≤ e'.2.2) (hinj : ∀ k', k' < 3 → k' ≠ k → am_im e.1 k' ≠ some b) (hf : (e'.2.2 = 97 ∨ e'.2.2 = 109 ∨ e'.2.2 = 121 ∨ e'.2.2 = 133) ∧ e'.2.2 = 97 + 12 * ((if (am_im e'.1 0).isSome then 1 else 0) + (if (am_im e'.1 1).isSome then 1 else 0) + (if (am_im e'.1 2).isSome then 1 else 0))) : Rel B e' t (va_up K 86 (va_up (K 86) k (nI 1))) L' (m + 1) := by
  obtain ⟨h1, h2, h3, h4, h5, h6, h7⟩ := hR
  have g : ∀ a, a < 97 → a ≠ 73 → (a < 79 ∨ 86 < a) → va_up K 86 (va_up (K 86) k (nI 1)) a = I a := fun a h8 h9 h10 => by
    rw [up_n (by omega), hcp.1 a (by omega), up_n h9]
    exact hfr a (by omega)
  have g73 : ∀ j, j ≠ 0 → va_up K 86 (va_up (K 86) k (nI 1)) 73 j = I 73 j := fun j hj => by
    rw [up_n (by decide), hcp.1 73 (by omega), up_s, up_n hj, hfr 73 (by omega)]
  have gM : ∀ w t', tok t' → w ≠ 1 + k → MTw w t' I → MTw w t' (va_up K 86 (va_up (K 86) k (nI 1))) := fun w t' ht hw hM => by
    have hM2 : MTw w t' (va_up J 73 (va_up (J 73) 0 (nI 0))) := MTw_c (fun a h8 h9 => by rw [up_n (by omega)]; exact hfr a (by omega)) hM
    exact MTw_c (fun a h8 h9 => up_n (by omega)) (cpW_o hcp ht hw hM2)
  refine ⟨h1, CTb_c (b := 3) (fun a h8 h9 => g a (by omega) (by omega) (by omega)) h2, MT_w.mpr (gM 0 t h1 (by omega) (MT_w.mp h3)), TP_c h4 (g 37 (by omega) (by omega) (by omega)) (g 1 (by omega) (by omega) (by omega)) (g 78 (by omega) (by omega) (by omega)) (g73 6 (by decide)) (g73 14 (by decide)) (g73 15 (by decide)), ?_, ?_, OC_c h7 (g 0 (by omega) (by omega) (by omega)) (g 51 (by omega) (by omega) (by omega)) (g 61 (by omega) (by omega) (by omega)) (by omega)⟩
  · intro s hs
    have h8 := h5 s hs
    unfold SLs at h8 ⊢
    rw [g (29 + 2 * s) (by omega) (by omega) (by omega), g 74 (by omega) (by omega) (by omega), g 75 (by omega) (by omega) (by omega), hL (30 + 2 * s) (by omega), hL 76 (by omega)]
    exact h8
  · have hold : ∀ k', k' < 3 → k' ≠ k → IMk k' (am_im e'.1 k') e'.2.2 (va_up K 86 (va_up (K 86) k (nI 1))) := by
      intro k' hk' hne
      have h8 := h6.1 k' hk'
      have e86 : va_up K 86 (va_up (K 86) k (nI 1)) 86 k' = I 86 k' := by
        rw [up_s, up_n hne, hcp.1 86 (by omega), up_n (by decide), hfr 86 (by omega)]
      rw [heo k' hk' hne]
      cases hi : am_im e.1 k' with
      | none =>
        rw [hi] at h8
        exact e86.trans h8
      | some b' =>
        rw [hi] at h8
        obtain ⟨g1, g2, g3, t', g4, g5, g6⟩ := h8
        have hbb : b' ≠ b := fun h => hinj k' hk' hne (by rw [hi, h])
        refine ⟨e86.trans g1, g2, by omega, t', g4, CTb_c (fun a h8 h9 => ?_) g5, gM (1 + k') t' g4 (by omega) g6⟩
        rw [up_n (by omega), hcp.1 a (by omega), up_n (by omega)]
        exact hfr a (by omega)
    refine ⟨fun k' hk' => ?_, fun k1 k2 b' hk1 hk2 e1 e2 => ?_, hf⟩
    · by_cases hne : k' = k
      · rw [hne, he]
        refine ⟨by rw [up_s, up_s], hb, hn, t, h1, CTb_c (fun a h8 h9 => ?_) hJ, MTw_c (fun a h8 h9 => up_n (by omega)) (cpW_b hcp h1 (MTw_c (fun a h8 h9 => by rw [up_n (by omega)]; exact hfr a (by omega)) (MT_w.mp h3)))⟩
        rw [up_n (by omega), hcp.1 a (by omega), up_n (by omega)]
      · exact hold k' hk' hne
    · by_cases n1 : k1 = k
      · by_cases n2 : k2 = k
        · rw [n1, n2]
        · rw [n1, he] at e1
          rw [heo k2 hk2 n2] at e2
          exact absurd (e2.trans e1.symm) (hinj k2 hk2 n2)
      · by_cases n2 : k2 = k
        · rw [n2, he] at e2
          rw [heo k1 hk1 n1] at e1
          exact absurd (e1.trans e2.symm) (hinj k1 hk1 n1)
        · rw [heo k1 hk1 n1] at e1
          rw [heo k2 hk2 n2] at e2
          exact h6.2.1 k1 k2 b' hk1 hk2 e1 e2
theorem r_back {B : tw → Nat × Nat × (Nat → Nat)} {e : am_V} {I : Nat → Nat → Int32} {L : Nat → Nat → Int64} {t : tw} {m : Nat} {Q : Int32 → Int32 → (Nat → Nat → Int32) → Prop} {v1 : Int32} (hR : Rel B e t I L m) (hm : m < 1000000) (hQ : ∀ r J t', Rel B e t' J L (m + 1) → Q r r J) : C_X10_back_0 e v1 I L (fun r J => C_X11_back_73 e v1 J L (fun r' K => Q r r' K)) := by
  have f1 : Rel B e t (va_up I 73 (va_up (I 73) 0 (nI 0))) L (m + 1) := Rel_q hR (fr_73 (fr_refl _ _ _) rfl) (frL_r L) (by omega)
  rcases crl v1 2 (by decide) with a1 | ⟨a1, a2⟩ | ⟨k, hk, rfl⟩
  · (refine b_X10_back_0 ?_; simp (disch := omega) only [pk_mul, nI_add, ksub, kdv, kd8, kd64, kd2, kd3, km8, km64, kt8, ke8, ke64, kcl, kin, kle, klt, keq, up_s, up_n, up_u, true_and, and_true, false_implies, true_implies, not_false_eq_true, not_true_eq_false, a1]; refine b_X11_back_73 ?_; simp (disch := omega) only [pk_mul, nI_add, ksub, kdv, kd8, kd64, kd2, kd3, km8, km64, kt8, ke8, ke64, kcl, kin, kle, klt, keq, up_s, up_n, up_u, true_and, and_true, false_implies, true_implies, not_false_eq_true, not_true_eq_false, a1, kzl]; exact hQ _ _ _ f1)
  · (refine b_X10_back_0 ?_; simp (disch := omega) only [pk_mul, nI_add, ksub, kdv, kd8, kd64, kd2, kd3, km8, km64, kt8, ke8, ke64, kcl, kin, kle, klt, keq, up_s, up_n, up_u, true_and, and_true, false_implies, true_implies, not_false_eq_true, not_true_eq_false, a1, klt3, a2]; refine b_X11_back_73 ?_; simp (disch := omega) only [pk_mul, nI_add, ksub, kdv, kd8, kd64, kd2, kd3, km8, km64, kt8, ke8, ke64, kcl, kin, kle, klt, keq, up_s, up_n, up_u, true_and, and_true, false_implies, true_implies, not_false_eq_true, not_true_eq_false, a1, a2, kzl, kl2]; exact hQ _ _ _ f1)
  · have hend : ∀ t' J b, tok t' → CTb b t' I → MTw (1 + k) t' I → I 86 k = nI 1 → (∀ a, (a < 3 ∨ 14 < a) → J a = I a) → CTb 3 t' J → C_X11_back_73 e (nI k) (va_up J 0 (va_up (J 0) 12 (J 0 12 + nI 1))) L (fun r' K => Q (nI 0) r' K) := by
      intro t' J b ht hC hM h86 hfr hJ
      refine m_back (by omega) (by rw [up_n (by decide), hfr 86 (by omega)]; exact h86) (fun K hK => ?_)
      generalize hJ1 : va_up J 0 (va_up (J 0) 12 (J 0 12 + nI 1)) = J1 at hK
      have r0 : J1 0 = va_up (I 0) 12 (I 0 12 + nI 1) := by rw [← hJ1, up_s, hfr 0 (by omega)]
      have ro : ∀ a, a ≠ 0 → (a < 3 ∨ 14 < a) → J1 a = I a := fun a h0 ha => by rw [← hJ1, up_n h0]; exact hfr a ha
      have hM1 : MTw (1 + k) t' (va_up J1 73 (va_up (J1 73) 0 (nI 0))) := MTw_c (fun a h8 h9 => by rw [up_n (by omega)]; exact ro a (by omega) (by omega)) hM
      refine hQ _ _ t' (Rel_up hR hm ht (CTb_c (b := 3) (fun a h8 h9 => ?_) hJ) (MT_w.mpr (cpW_b hK ht hM1)) ?_ ?_ (fun a h1 h2 h3 h4 => ?_) (fun i h1 => ?_) (fun i h1 => ?_) (fun i h1 => ?_) (fun i h1 => ?_) (fun i h1 => ?_) (fun i h1 => ?_) (fun i h1 => ?_))
      · rw [hK.1 a (by omega), up_n (by omega), ← hJ1, up_n (by omega)]
      · rw [hK.1 0 (by omega), up_n (by decide)]; exact r0
      · rw [hK.1 73 (by omega), up_s, ro 73 (by decide) (by omega)]
      · rw [hK.1 a (by omega), up_n h3]; exact ro a h1 h2
      · rw [hK.2.1, cpR_o (by omega), up_n (by decide), ro 79 (by decide) (by omega)]
      · rw [hK.2.2.1, cpR_o (by omega), up_n (by decide), ro 80 (by decide) (by omega)]
      · rw [hK.2.2.2.1, cpR_o (by omega), up_n (by decide), ro 81 (by decide) (by omega)]
      · rw [hK.2.2.2.2.1, cpR_o (by omega), up_n (by decide), ro 82 (by decide) (by omega)]
      · rw [hK.2.2.2.2.2.1, cpR_o (by omega), up_n (by decide), ro 83 (by decide) (by omega)]
      · rw [hK.2.2.2.2.2.2.1, cpR_o (by omega), up_n (by decide), ro 84 (by decide) (by omega)]
      · rw [hK.2.2.2.2.2.2.2, cpR_o (by omega), up_n (by decide), ro 85 (by decide) (by omega)]
    have hno : I 86 k = nI 0 → C_X11_back_73 e (nI k) I L (fun r' K => Q (-6 : Int32) r' K) := by
      intro h86
      have g : (k ≤ 2) = True := eq_true (by omega)
      have q0 : ((0 : Nat) = 0) = True := eq_true rfl
      refine b_X11_back_73 ?_
      simp (disch := omega) only [pk_mul, nI_add, ksub, kdv, kd8, kd64, kd2, kd3, km8, km64, kt8, ke8, ke64, kcl, kin, kle, klt, keq, up_s, up_n, up_u, true_and, and_true, false_implies, true_implies, not_false_eq_true, not_true_eq_false, kzl, knl, kl2, g, h86, q0]
      exact hQ _ _ _ f1
    have hIM := hR.2.2.2.2.2.1
    obtain ⟨⟨o0, o1, o2⟩, sl, n⟩ := e
    obtain rfl | rfl | rfl : k = 0 ∨ k = 1 ∨ k = 2 := by omega
    · have h8 := hIM.1 0 (by decide)
      cases ho : o0 with
      | none =>
        rw [ho] at h8
        subst ho
        exact bb_backn_0 (hno h8)
      | some b =>
        subst ho
        obtain ⟨g1, g2, g3, t', g4, g5, g6⟩ := h8
        rcases g2 with rfl | rfl | rfl
        · exact bb_back_0_97 (c_become_3_97 g4 (CTb_N g5) (fun J j1 j2 => hend t' J 97 g4 g5 g6 g1 j1 j2))
        · exact bb_back_0_109 (c_become_3_109 g4 (CTb_N g5) (fun J j1 j2 => hend t' J 109 g4 g5 g6 g1 j1 j2))
        · exact bb_back_0_121 (c_become_3_121 g4 (CTb_N g5) (fun J j1 j2 => hend t' J 121 g4 g5 g6 g1 j1 j2))
    · have h8 := hIM.1 1 (by decide)
      cases ho : o1 with
      | none =>
        rw [ho] at h8
        subst ho
        exact bb_backn_1 (hno h8)
      | some b =>
        subst ho
        obtain ⟨g1, g2, g3, t', g4, g5, g6⟩ := h8
        rcases g2 with rfl | rfl | rfl
        · exact bb_back_1_97 (c_become_3_97 g4 (CTb_N g5) (fun J j1 j2 => hend t' J 97 g4 g5 g6 g1 j1 j2))
        · exact bb_back_1_109 (c_become_3_109 g4 (CTb_N g5) (fun J j1 j2 => hend t' J 109 g4 g5 g6 g1 j1 j2))
        · exact bb_back_1_121 (c_become_3_121 g4 (CTb_N g5) (fun J j1 j2 => hend t' J 121 g4 g5 g6 g1 j1 j2))
    · have h8 := hIM.1 2 (by decide)
      cases ho : o2 with
      | none =>
        rw [ho] at h8
        subst ho
        exact bb_backn_2 (hno h8)
      | some b =>
        subst ho
        obtain ⟨g1, g2, g3, t', g4, g5, g6⟩ := h8
        rcases g2 with rfl | rfl | rfl
        · exact bb_back_2_97 (c_become_3_97 g4 (CTb_N g5) (fun J j1 j2 => hend t' J 97 g4 g5 g6 g1 j1 j2))
        · exact bb_back_2_109 (c_become_3_109 g4 (CTb_N g5) (fun J j1 j2 => hend t' J 109 g4 g5 g6 g1 j1 j2))
        · exact bb_back_2_121 (c_become_3_121 g4 (CTb_N g5) (fun J j1 j2 => hend t' J 121 g4 g5 g6 g1 j1 j2))
theorem r_keep {B : tw → Nat × Nat × (Nat → Nat)} {e : am_V} {I : Nat → Nat → Int32} {L : Nat → Nat → Int64} {t : tw} {m : Nat} {Q : Int32 → Int32 → am_V → (Nat → Nat → Int32) → (Nat → Nat → Int64) → Prop} {v1 : Int32} (hR : Rel B e t I L m) (hQ : ∀ r e' J L', e'.2.1 = e.2.1 → L' am_old = L am_old → J am_old = I am_old → Rel B e' t J L' (m + 1) → Q r r e' J L') : am_C am_P 10 mi_X10_keep [.ref 0, .int v1] (am_st e I L) 12 1834 (fun v σ => ∃ r e' J L', v = some (.int r) ∧ σ = am_st e' J L' ∧ C_X11_keep_73 e' v1 J L' (fun r' K => Q r r' e' K L')) := by
  have f1 : Rel B e t (va_up I 73 (va_up (I 73) 0 (nI 0))) L (m + 1) := Rel_q hR (fr_73 (fr_refl _ _ _) rfl) (frL_r L) (by omega)
  have hfrom : ∀ v, C_X10_keep_0 e v I L (fun r J => C_X11_keep_73 e v J L (fun r' K => Q r r' e K L)) → am_C am_P 10 mi_X10_keep [.ref 0, .int v] (am_st e I L) 12 1834 (fun v' σ => ∃ r e' J L', v' = some (.int r) ∧ σ = am_st e' J L' ∧ C_X11_keep_73 e' v J L' (fun r' K => Q r r' e' K L')) := by
    intro v h
    exact am_cI (am_C_b h (Nat.zero_le _) (Nat.zero_le _)) (fun r J h2 => ⟨r, e, J, L, rfl, rfl, h2⟩)
  rcases crl v1 2 (by decide) with a1 | ⟨a1, a2⟩ | ⟨k, hk, rfl⟩
  · exact hfrom _ (by refine b_X10_keep_0 ?_; simp (disch := omega) only [pk_mul, nI_add, ksub, kdv, kd8, kd64, kd2, kd3, km8, km64, kt8, ke8, ke64, kcl, kin, kle, klt, keq, up_s, up_n, up_u, true_and, and_true, false_implies, true_implies, not_false_eq_true, not_true_eq_false, a1]; refine b_X11_keep_73 ?_; simp (disch := omega) only [pk_mul, nI_add, ksub, kdv, kd8, kd64, kd2, kd3, km8, km64, kt8, ke8, ke64, kcl, kin, kle, klt, keq, up_s, up_n, up_u, true_and, and_true, false_implies, true_implies, not_false_eq_true, not_true_eq_false, a1, kzl]; exact hQ _ _ _ _ rfl rfl rfl f1)
  · exact hfrom _ (by refine b_X10_keep_0 ?_; simp (disch := omega) only [pk_mul, nI_add, ksub, kdv, kd8, kd64, kd2, kd3, km8, km64, kt8, ke8, ke64, kcl, kin, kle, klt, keq, up_s, up_n, up_u, true_and, and_true, false_implies, true_implies, not_false_eq_true, not_true_eq_false, a1, klt3, a2]; refine b_X11_keep_73 ?_; simp (disch := omega) only [pk_mul, nI_add, ksub, kdv, kd8, kd64, kd2, kd3, km8, km64, kt8, ke8, ke64, kcl, kin, kle, klt, keq, up_s, up_n, up_u, true_and, and_true, false_implies, true_implies, not_false_eq_true, not_true_eq_false, a1, a2, kzl, kl2]; exact hQ _ _ _ _ rfl rfl rfl f1)
  · have hk3 : k < 3 := by omega
    have hIM := hR.2.2.2.2.2.1
    have ht := hR.1
    have hCN : ∀ I', (∀ a, a < 97 → I' a = I a) → NLb 3 t I' := fun I' h => CTb_N (CTb_c (b := 3) (fun a h1 h2 => h a (by omega)) hR.2.1)
    have hend : ∀ e' L' J b, (b = 97 ∨ b = 109 ∨ b = 121) → CTb b t J → (∀ a, (a < b ∨ b + 11 < a) → J a = I a) → (∀ a, (a < 97 ∨ 1000 < a) → L' a = L a) → am_im e'.1 k = some b → (∀ k', k' < 3 → k' ≠ k → am_im e'.1 k' = am_im e.1 k') → b + 12 ≤ e'.2.2 → e.2.2 ≤ e'.2.2 → e'.2.1 = e.2.1 → (∀ k', k' < 3 → k' ≠ k → am_im e.1 k' ≠ some b) → ((e'.2.2 = 97 ∨ e'.2.2 = 109 ∨ e'.2.2 = 121 ∨ e'.2.2 = 133) ∧ e'.2.2 = 97 + 12 * ((if (am_im e'.1 0).isSome then 1 else 0) + (if (am_im e'.1 1).isSome then 1 else 0) + (if (am_im e'.1 2).isSome then 1 else 0))) → C_X11_keep_73 e' (nI k) J L' (fun r' K => Q (nI 0) r' e' K L') := by
      intro e' L' J b hb hJ hfr hL he heo hn hn2 hsl hinj hf
      refine m_keep hk3 (fun K hK => hQ _ _ _ _ hsl (hL _ (Or.inr (show 1000 < 1000000 from by decide))) ?_ (Rel_kp hR hk3 hb hJ hfr hK (fun a ha => hL a (by omega)) he heo hn hn2 hinj hf))
      rw [up_n (by decide), hK.1 am_old (Or.inr (show 85 < 1000000 from by decide)), up_n (by decide), hfr am_old (Or.inr (show b + 11 < 1000000 from by omega))]
    obtain ⟨⟨o0, o1, o2⟩, sl, n⟩ := e
    obtain rfl | rfl | rfl : k = 0 ∨ k = 1 ∨ k = 2 := by omega
    · have h8 := hIM.1 0 (by decide)
      have hx1 := hIM.1 1 (by decide)
      have hx2 := hIM.1 2 (by decide)
      have hn1 := hIM.2.2.1
      have hn2 := hIM.2.2.2
      dsimp only at hn1 hn2
      cases ho : o0 with
      | none =>
        subst ho
        have hy1 : ∀ b, o1 = some b → b + 12 ≤ n := fun b hb => by
          subst hb
          exact hx1.2.2.1
        have hy2 : ∀ b, o2 = some b → b + 12 ≤ n := fun b hb => by
          subst hb
          exact hx2.2.2.1
        have hlt : n = 97 ∨ n = 109 ∨ n = 121 := by
          rcases hn1 with h | h | h | h
          · exact Or.inl h
          · exact Or.inr (Or.inl h)
          · exact Or.inr (Or.inr h)
          · exfalso
            rw [h] at hn2
            cases o1 <;> cases o2 <;> simp [am_im] at hn2
        rcases hlt with rfl | rfl | rfl
        · refine t_keepn_0_97 (c_become_97_3 ht (hCN _ (fun a ha => by unfold zrm; rw [if_neg (by omega)])) (fun J j1 j2 => ⟨nI 0, ((some 97, o1, o2), sl, 109), J, _, rfl, rfl, ?_⟩))
          refine hend ((some 97, o1, o2), sl, 109) _ J 97 (by omega) j2 (fun a ha => by rw [j1 a (by omega)]; unfold zrm; rw [if_neg (by omega)]) (fun a ha => by unfold zrm; rw [if_neg (by omega)]) rfl (fun k' hk' hne => ?_) (show 109 ≤ 109 from by decide) (show 97 ≤ 109 from by decide) rfl (fun k' hk' hne => ?_) ⟨Or.inr (Or.inl rfl), ?_⟩
          · obtain rfl | rfl | rfl : k' = 0 ∨ k' = 1 ∨ k' = 2 := by omega
            all_goals first | rfl | exact absurd rfl hne
          · intro hb
            obtain rfl | rfl | rfl : k' = 0 ∨ k' = 1 ∨ k' = 2 := by omega
            all_goals first | exact absurd rfl hne | (have := hy1 _ hb; omega) | (have := hy2 _ hb; omega)
          · cases o1 <;> cases o2 <;> simp [am_im] at hn2 ⊢
        · refine t_keepn_0_109 (c_become_109_3 ht (hCN _ (fun a ha => by unfold zrm; rw [if_neg (by omega)])) (fun J j1 j2 => ⟨nI 0, ((some 109, o1, o2), sl, 121), J, _, rfl, rfl, ?_⟩))
          refine hend ((some 109, o1, o2), sl, 121) _ J 109 (by omega) j2 (fun a ha => by rw [j1 a (by omega)]; unfold zrm; rw [if_neg (by omega)]) (fun a ha => by unfold zrm; rw [if_neg (by omega)]) rfl (fun k' hk' hne => ?_) (show 121 ≤ 121 from by decide) (show 109 ≤ 121 from by decide) rfl (fun k' hk' hne => ?_) ⟨Or.inr (Or.inr (Or.inl rfl)), ?_⟩
          · obtain rfl | rfl | rfl : k' = 0 ∨ k' = 1 ∨ k' = 2 := by omega
            all_goals first | rfl | exact absurd rfl hne
          · intro hb
            obtain rfl | rfl | rfl : k' = 0 ∨ k' = 1 ∨ k' = 2 := by omega
            all_goals first | exact absurd rfl hne | (have := hy1 _ hb; omega) | (have := hy2 _ hb; omega)
          · cases o1 <;> cases o2 <;> simp [am_im] at hn2 ⊢
        · refine t_keepn_0_121 (c_become_121_3 ht (hCN _ (fun a ha => by unfold zrm; rw [if_neg (by omega)])) (fun J j1 j2 => ⟨nI 0, ((some 121, o1, o2), sl, 133), J, _, rfl, rfl, ?_⟩))
          refine hend ((some 121, o1, o2), sl, 133) _ J 121 (by omega) j2 (fun a ha => by rw [j1 a (by omega)]; unfold zrm; rw [if_neg (by omega)]) (fun a ha => by unfold zrm; rw [if_neg (by omega)]) rfl (fun k' hk' hne => ?_) (show 133 ≤ 133 from by decide) (show 121 ≤ 133 from by decide) rfl (fun k' hk' hne => ?_) ⟨Or.inr (Or.inr (Or.inr rfl)), ?_⟩
          · obtain rfl | rfl | rfl : k' = 0 ∨ k' = 1 ∨ k' = 2 := by omega
            all_goals first | rfl | exact absurd rfl hne
          · intro hb
            obtain rfl | rfl | rfl : k' = 0 ∨ k' = 1 ∨ k' = 2 := by omega
            all_goals first | exact absurd rfl hne | (have := hy1 _ hb; omega) | (have := hy2 _ hb; omega)
          · cases o1 <;> cases o2 <;> simp [am_im] at hn2 ⊢
      | some b =>
        subst ho
        obtain ⟨g1, g2, g3, t', g4, g5, g6⟩ := h8
        have hinj : ∀ k', k' < 3 → k' ≠ 0 → am_im (((some b, o1, o2), sl, n)).1 k' ≠ some b := fun k' hk' hne hb => hne (hIM.2.1 k' 0 b hk' (by decide) hb rfl)
        rcases g2 with rfl | rfl | rfl
        · exact hfrom _ (bb_keep_0_97 (c_become_97_3 ht (hCN _ (fun _ _ => rfl)) (fun J j1 j2 => hend _ L J 97 (by omega) j2 j1 (fun _ _ => rfl) rfl (fun _ _ _ => rfl) g3 (Nat.le_refl _) rfl hinj ⟨hIM.2.2.1, hIM.2.2.2⟩)))
        · exact hfrom _ (bb_keep_0_109 (c_become_109_3 ht (hCN _ (fun _ _ => rfl)) (fun J j1 j2 => hend _ L J 109 (by omega) j2 j1 (fun _ _ => rfl) rfl (fun _ _ _ => rfl) g3 (Nat.le_refl _) rfl hinj ⟨hIM.2.2.1, hIM.2.2.2⟩)))
        · exact hfrom _ (bb_keep_0_121 (c_become_121_3 ht (hCN _ (fun _ _ => rfl)) (fun J j1 j2 => hend _ L J 121 (by omega) j2 j1 (fun _ _ => rfl) rfl (fun _ _ _ => rfl) g3 (Nat.le_refl _) rfl hinj ⟨hIM.2.2.1, hIM.2.2.2⟩)))
    · have h8 := hIM.1 1 (by decide)
      have hx0 := hIM.1 0 (by decide)
      have hx2 := hIM.1 2 (by decide)
      have hn1 := hIM.2.2.1
      have hn2 := hIM.2.2.2
      dsimp only at hn1 hn2
      cases ho : o1 with
      | none =>
        subst ho
        have hy0 : ∀ b, o0 = some b → b + 12 ≤ n := fun b hb => by
          subst hb
          exact hx0.2.2.1
        have hy2 : ∀ b, o2 = some b → b + 12 ≤ n := fun b hb => by
          subst hb
          exact hx2.2.2.1
        have hlt : n = 97 ∨ n = 109 ∨ n = 121 := by
          rcases hn1 with h | h | h | h
          · exact Or.inl h
          · exact Or.inr (Or.inl h)
          · exact Or.inr (Or.inr h)
          · exfalso
            rw [h] at hn2
            cases o0 <;> cases o2 <;> simp [am_im] at hn2
        rcases hlt with rfl | rfl | rfl
        · refine t_keepn_1_97 (c_become_97_3 ht (hCN _ (fun a ha => by unfold zrm; rw [if_neg (by omega)])) (fun J j1 j2 => ⟨nI 0, ((o0, some 97, o2), sl, 109), J, _, rfl, rfl, ?_⟩))
          refine hend ((o0, some 97, o2), sl, 109) _ J 97 (by omega) j2 (fun a ha => by rw [j1 a (by omega)]; unfold zrm; rw [if_neg (by omega)]) (fun a ha => by unfold zrm; rw [if_neg (by omega)]) rfl (fun k' hk' hne => ?_) (show 109 ≤ 109 from by decide) (show 97 ≤ 109 from by decide) rfl (fun k' hk' hne => ?_) ⟨Or.inr (Or.inl rfl), ?_⟩
          · obtain rfl | rfl | rfl : k' = 0 ∨ k' = 1 ∨ k' = 2 := by omega
            all_goals first | rfl | exact absurd rfl hne
          · intro hb
            obtain rfl | rfl | rfl : k' = 0 ∨ k' = 1 ∨ k' = 2 := by omega
            all_goals first | exact absurd rfl hne | (have := hy0 _ hb; omega) | (have := hy2 _ hb; omega)
          · cases o0 <;> cases o2 <;> simp [am_im] at hn2 ⊢
        · refine t_keepn_1_109 (c_become_109_3 ht (hCN _ (fun a ha => by unfold zrm; rw [if_neg (by omega)])) (fun J j1 j2 => ⟨nI 0, ((o0, some 109, o2), sl, 121), J, _, rfl, rfl, ?_⟩))
          refine hend ((o0, some 109, o2), sl, 121) _ J 109 (by omega) j2 (fun a ha => by rw [j1 a (by omega)]; unfold zrm; rw [if_neg (by omega)]) (fun a ha => by unfold zrm; rw [if_neg (by omega)]) rfl (fun k' hk' hne => ?_) (show 121 ≤ 121 from by decide) (show 109 ≤ 121 from by decide) rfl (fun k' hk' hne => ?_) ⟨Or.inr (Or.inr (Or.inl rfl)), ?_⟩
          · obtain rfl | rfl | rfl : k' = 0 ∨ k' = 1 ∨ k' = 2 := by omega
            all_goals first | rfl | exact absurd rfl hne
          · intro hb
            obtain rfl | rfl | rfl : k' = 0 ∨ k' = 1 ∨ k' = 2 := by omega
            all_goals first | exact absurd rfl hne | (have := hy0 _ hb; omega) | (have := hy2 _ hb; omega)
          · cases o0 <;> cases o2 <;> simp [am_im] at hn2 ⊢
        · refine t_keepn_1_121 (c_become_121_3 ht (hCN _ (fun a ha => by unfold zrm; rw [if_neg (by omega)])) (fun J j1 j2 => ⟨nI 0, ((o0, some 121, o2), sl, 133), J, _, rfl, rfl, ?_⟩))
          refine hend ((o0, some 121, o2), sl, 133) _ J 121 (by omega) j2 (fun a ha => by rw [j1 a (by omega)]; unfold zrm; rw [if_neg (by omega)]) (fun a ha => by unfold zrm; rw [if_neg (by omega)]) rfl (fun k' hk' hne => ?_) (show 133 ≤ 133 from by decide) (show 121 ≤ 133 from by decide) rfl (fun k' hk' hne => ?_) ⟨Or.inr (Or.inr (Or.inr rfl)), ?_⟩
          · obtain rfl | rfl | rfl : k' = 0 ∨ k' = 1 ∨ k' = 2 := by omega
            all_goals first | rfl | exact absurd rfl hne
          · intro hb
            obtain rfl | rfl | rfl : k' = 0 ∨ k' = 1 ∨ k' = 2 := by omega
            all_goals first | exact absurd rfl hne | (have := hy0 _ hb; omega) | (have := hy2 _ hb; omega)
          · cases o0 <;> cases o2 <;> simp [am_im] at hn2 ⊢
      | some b =>
        subst ho
        obtain ⟨g1, g2, g3, t', g4, g5, g6⟩ := h8
        have hinj : ∀ k', k' < 3 → k' ≠ 1 → am_im (((o0, some b, o2), sl, n)).1 k' ≠ some b := fun k' hk' hne hb => hne (hIM.2.1 k' 1 b hk' (by decide) hb rfl)
        rcases g2 with rfl | rfl | rfl
        · exact hfrom _ (bb_keep_1_97 (c_become_97_3 ht (hCN _ (fun _ _ => rfl)) (fun J j1 j2 => hend _ L J 97 (by omega) j2 j1 (fun _ _ => rfl) rfl (fun _ _ _ => rfl) g3 (Nat.le_refl _) rfl hinj ⟨hIM.2.2.1, hIM.2.2.2⟩)))
        · exact hfrom _ (bb_keep_1_109 (c_become_109_3 ht (hCN _ (fun _ _ => rfl)) (fun J j1 j2 => hend _ L J 109 (by omega) j2 j1 (fun _ _ => rfl) rfl (fun _ _ _ => rfl) g3 (Nat.le_refl _) rfl hinj ⟨hIM.2.2.1, hIM.2.2.2⟩)))
        · exact hfrom _ (bb_keep_1_121 (c_become_121_3 ht (hCN _ (fun _ _ => rfl)) (fun J j1 j2 => hend _ L J 121 (by omega) j2 j1 (fun _ _ => rfl) rfl (fun _ _ _ => rfl) g3 (Nat.le_refl _) rfl hinj ⟨hIM.2.2.1, hIM.2.2.2⟩)))
    · have h8 := hIM.1 2 (by decide)
      have hx0 := hIM.1 0 (by decide)
      have hx1 := hIM.1 1 (by decide)
      have hn1 := hIM.2.2.1
      have hn2 := hIM.2.2.2
      dsimp only at hn1 hn2
      cases ho : o2 with
      | none =>
        subst ho
        have hy0 : ∀ b, o0 = some b → b + 12 ≤ n := fun b hb => by
          subst hb
          exact hx0.2.2.1
        have hy1 : ∀ b, o1 = some b → b + 12 ≤ n := fun b hb => by
          subst hb
          exact hx1.2.2.1
        have hlt : n = 97 ∨ n = 109 ∨ n = 121 := by
          rcases hn1 with h | h | h | h
          · exact Or.inl h
          · exact Or.inr (Or.inl h)
          · exact Or.inr (Or.inr h)
          · exfalso
            rw [h] at hn2
            cases o0 <;> cases o1 <;> simp [am_im] at hn2
        rcases hlt with rfl | rfl | rfl
        · refine t_keepn_2_97 (c_become_97_3 ht (hCN _ (fun a ha => by unfold zrm; rw [if_neg (by omega)])) (fun J j1 j2 => ⟨nI 0, ((o0, o1, some 97), sl, 109), J, _, rfl, rfl, ?_⟩))
          refine hend ((o0, o1, some 97), sl, 109) _ J 97 (by omega) j2 (fun a ha => by rw [j1 a (by omega)]; unfold zrm; rw [if_neg (by omega)]) (fun a ha => by unfold zrm; rw [if_neg (by omega)]) rfl (fun k' hk' hne => ?_) (show 109 ≤ 109 from by decide) (show 97 ≤ 109 from by decide) rfl (fun k' hk' hne => ?_) ⟨Or.inr (Or.inl rfl), ?_⟩
          · obtain rfl | rfl | rfl : k' = 0 ∨ k' = 1 ∨ k' = 2 := by omega
            all_goals first | rfl | exact absurd rfl hne
          · intro hb
            obtain rfl | rfl | rfl : k' = 0 ∨ k' = 1 ∨ k' = 2 := by omega
            all_goals first | exact absurd rfl hne | (have := hy0 _ hb; omega) | (have := hy1 _ hb; omega)
          · cases o0 <;> cases o1 <;> simp [am_im] at hn2 ⊢
        · refine t_keepn_2_109 (c_become_109_3 ht (hCN _ (fun a ha => by unfold zrm; rw [if_neg (by omega)])) (fun J j1 j2 => ⟨nI 0, ((o0, o1, some 109), sl, 121), J, _, rfl, rfl, ?_⟩))
          refine hend ((o0, o1, some 109), sl, 121) _ J 109 (by omega) j2 (fun a ha => by rw [j1 a (by omega)]; unfold zrm; rw [if_neg (by omega)]) (fun a ha => by unfold zrm; rw [if_neg (by omega)]) rfl (fun k' hk' hne => ?_) (show 121 ≤ 121 from by decide) (show 109 ≤ 121 from by decide) rfl (fun k' hk' hne => ?_) ⟨Or.inr (Or.inr (Or.inl rfl)), ?_⟩
          · obtain rfl | rfl | rfl : k' = 0 ∨ k' = 1 ∨ k' = 2 := by omega
            all_goals first | rfl | exact absurd rfl hne
          · intro hb
            obtain rfl | rfl | rfl : k' = 0 ∨ k' = 1 ∨ k' = 2 := by omega
            all_goals first | exact absurd rfl hne | (have := hy0 _ hb; omega) | (have := hy1 _ hb; omega)
          · cases o0 <;> cases o1 <;> simp [am_im] at hn2 ⊢
        · refine t_keepn_2_121 (c_become_121_3 ht (hCN _ (fun a ha => by unfold zrm; rw [if_neg (by omega)])) (fun J j1 j2 => ⟨nI 0, ((o0, o1, some 121), sl, 133), J, _, rfl, rfl, ?_⟩))
          refine hend ((o0, o1, some 121), sl, 133) _ J 121 (by omega) j2 (fun a ha => by rw [j1 a (by omega)]; unfold zrm; rw [if_neg (by omega)]) (fun a ha => by unfold zrm; rw [if_neg (by omega)]) rfl (fun k' hk' hne => ?_) (show 133 ≤ 133 from by decide) (show 121 ≤ 133 from by decide) rfl (fun k' hk' hne => ?_) ⟨Or.inr (Or.inr (Or.inr rfl)), ?_⟩
          · obtain rfl | rfl | rfl : k' = 0 ∨ k' = 1 ∨ k' = 2 := by omega
            all_goals first | rfl | exact absurd rfl hne
          · intro hb
            obtain rfl | rfl | rfl : k' = 0 ∨ k' = 1 ∨ k' = 2 := by omega
            all_goals first | exact absurd rfl hne | (have := hy0 _ hb; omega) | (have := hy1 _ hb; omega)
          · cases o0 <;> cases o1 <;> simp [am_im] at hn2 ⊢
      | some b =>
        subst ho
        obtain ⟨g1, g2, g3, t', g4, g5, g6⟩ := h8
        have hinj : ∀ k', k' < 3 → k' ≠ 2 → am_im (((o0, o1, some b), sl, n)).1 k' ≠ some b := fun k' hk' hne hb => hne (hIM.2.1 k' 2 b hk' (by decide) hb rfl)
        rcases g2 with rfl | rfl | rfl
        · exact hfrom _ (bb_keep_2_97 (c_become_97_3 ht (hCN _ (fun _ _ => rfl)) (fun J j1 j2 => hend _ L J 97 (by omega) j2 j1 (fun _ _ => rfl) rfl (fun _ _ _ => rfl) g3 (Nat.le_refl _) rfl hinj ⟨hIM.2.2.1, hIM.2.2.2⟩)))
        · exact hfrom _ (bb_keep_2_109 (c_become_109_3 ht (hCN _ (fun _ _ => rfl)) (fun J j1 j2 => hend _ L J 109 (by omega) j2 j1 (fun _ _ => rfl) rfl (fun _ _ _ => rfl) g3 (Nat.le_refl _) rfl hinj ⟨hIM.2.2.1, hIM.2.2.2⟩)))
        · exact hfrom _ (bb_keep_2_121 (c_become_121_3 ht (hCN _ (fun _ _ => rfl)) (fun J j1 j2 => hend _ L J 121 (by omega) j2 j1 (fun _ _ => rfl) rfl (fun _ _ _ => rfl) g3 (Nat.le_refl _) rfl hinj ⟨hIM.2.2.1, hIM.2.2.2⟩)))
