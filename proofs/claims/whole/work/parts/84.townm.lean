/-! a town told: the reference's errands, lines, the whole -/
section RN
variable {e : am_V} {I0 J : Nat → Nat → Int32} {L0 M : Nat → Nat → Int64} {b : Nat → Int32} {n p : Nat} {t : tw}
theorem MF_79 {f s : Nat} {K : Nat → Nat → Int32} (h : MF I0 L0 f s J M) (hr : ∀ a, a ≠ 79 → K a = J a) (h79 : ∀ i, i ≠ 4 → K 79 i = J 79 i) : MF I0 L0 f s K M := by
  obtain ⟨h1, h2, h3, ⟨a1, a2, a3, a4, a5, a6, a7, a8⟩, h5⟩ := h
  have e73 := hr 73 (by decide)
  exact ⟨h1, by rw [e73]; exact h2, by rw [e73]; exact h3, ⟨fun a ha hb => (hr a (by omega)).trans (a1 a ha hb), by rw [e73]; exact a2, fun i hi => (h79 i hi).trans (a3 i hi), by rw [hr 80 (by decide)]; exact a4, by rw [hr 81 (by decide)]; exact a5, by rw [hr 82 (by decide)]; exact a6, by rw [hr 83 (by decide)]; exact a7, by rw [hr 84 (by decide)]; exact a8⟩, h5⟩
theorem MG_t {t' : tw} {K : Nat → Nat → Int32} (h : MG I0 L0 b n t p J M) (hr : ∀ a, a ≠ 79 → a ≠ 80 → a ≠ 84 → K a = J a) (h79 : ∀ i, i ≠ 4 → K 79 i = J 79 i) (h80 : ∀ i, (i < 20 ∨ 25 ≤ i) → K 80 i = J 80 i) (h84 : ∀ i, (i < 72 ∨ 90 ≤ i) → K 84 i = J 84 i) (hM : MTw 4 t' K) : MG I0 L0 b n t' p K M := by
  obtain ⟨h1, h2, h3, ⟨a1, a2, a3, a4, a5, a6, a7, a8⟩, h5, _⟩ := h
  have e73 := hr 73 (by decide) (by decide) (by decide)
  refine ⟨h1, ?_, by rw [e73]; exact h3, ⟨fun a ha hb => (hr a (by omega) (by omega) (by omega)).trans (a1 a ha hb), by rw [e73]; exact a2, fun i hi => (h79 i hi).trans (a3 i hi), fun i hi => (h80 i hi).trans (a4 i hi), by rw [hr 81 (by decide) (by decide) (by decide)]; exact a5, by rw [hr 82 (by decide) (by decide) (by decide)]; exact a6, by rw [hr 83 (by decide) (by decide) (by decide)]; exact a7, fun i hi => (h84 i hi).trans (a8 i hi)⟩, h5, hM⟩
  unfold MSt at h2 ⊢
  rw [e73]
  exact h2
theorem MG_84 {i : Nat} {v : Int32} (h : MG I0 L0 b n t p J M) (hi : 72 + 3 * t 0 4 ≤ i) (hi2 : i < 90) : MG I0 L0 b n t p (va_up J 84 (va_up (J 84) i v)) M := by
  obtain ⟨a1, a2, a3, a4, a5, a6, a7, a8, a9, b1, b2, b3, b4, b5⟩ := h.2.2.2.2.2
  refine MG_t h (fun a _ _ h4 => up_n h4) (fun _ _ => rfl) (fun _ _ => rfl) (fun j hj => ?_) ⟨a1, a2, a3, a4, a5, a6, a7, a8, a9, fun j hj => ?_, fun j hj => ?_, fun j hj => ?_, b4, b5⟩
  · show va_up (J 84) i v j = _
    rw [up_n (by omega)]
  · show va_up (J 84) i v _ = _
    rw [up_n (by omega)]; exact b1 j hj
  · show va_up (J 84) i v _ = _
    rw [up_n (by omega)]; exact b2 j hj
  · show va_up (J 84) i v _ = _
    rw [up_n (by omega)]; exact b3 j hj
theorem MF_84 {f s i : Nat} {v : Int32} (h : MF I0 L0 f s J M) (hi : 72 ≤ i) (hi2 : i < 90) : MF I0 L0 f s (va_up J 84 (va_up (J 84) i v)) M := MF_c h (fun a _ h4 => up_n h4) (fun _ _ => rfl) (fun j hj => by show va_up (J 84) i v j = _; rw [up_n (by omega)])
theorem MF_80 {f s i : Nat} {v : Int32} (h : MF I0 L0 f s J M) (hi : 20 ≤ i) (hi2 : i < 25) : MF I0 L0 f s (va_up J 80 (va_up (J 80) i v)) M := MF_c h (fun a h4 _ => up_n h4) (fun j hj => by show va_up (J 80) i v j = _; rw [up_n (by omega)]) (fun _ _ => rfl)
theorem m_errand {Q : (Nat → Nat → Int32) → (Nat → Nat → Int64) → Prop} {p0 : Nat} (hk : tok t) (hc : 1 ≤ t 0 0) (hG : MG I0 L0 b n t p J M) (hw : pW b n 6 p0 = .inr p) (h6 : ¬ 6 ≤ t 0 4) (hQ1 : ∀ K M' t' q, pErrand b n t p0 = .inr (t', q) → MG I0 L0 b n t' q K M' → Q K M') (hQ2 : ∀ K M' w s, pErrand b n t p0 = .inl (w, s) → MF I0 L0 w s K M' → Q K M') : C_X11_errandLine_73 e J M Q := by
  have hk2 := hk
  obtain ⟨o0, oT, oZ, oY, oD, o9, oN, o28, oB, oX, oE, oF, oA, oH, oU, oV⟩ := hk
  have e23 : J 80 23 = nI (t 0 4) := hG.2.2.2.2.2.2.2.2.2.1
  have ek1 : (nI (3 * (24 + t 0 4)) + nI 1).toNatClampNeg = 3 * (24 + t 0 4) + 1 := by rw [nI_add]; exact nI_clamp (by omega)
  have ek2 : (nI (3 * (24 + t 0 4)) + nI 2).toNatClampNeg = 3 * (24 + t 0 4) + 2 := by rw [nI_add]; exact nI_clamp (by omega)
  have vk1 : vp_in (nI (3 * (24 + t 0 4)) + nI 1) 90 := by rw [nI_add]; exact vp_in_nI (by omega) (by decide)
  have vk2 : vp_in (nI (3 * (24 + t 0 4)) + nI 2) 90 := by rw [nI_add]; exact vp_in_nI (by omega) (by decide)
  -- with a fault
  have hfin : ∀ f s r7 K M2, pErrand b n t p0 = .inl (f, s) → MF I0 L0 f s K M2 → Q (va_up (va_up K 84 (va_up (K 84) (3 * (24 + t 0 4) + 2) r7)) 80 (va_up (K 80) 23 ((K 80 23) + nI 1))) M2 := fun f s r7 K M2 hs hF => hQ2 _ _ _ _ hs (MF_80 (MF_84 hF (by omega) (by omega)) (by omega) (by omega))
  have hbad3 : ∀ f s r4 K M2, pErrand b n t p0 = .inl (f, s) → MF I0 L0 f s K M2 → C_X11_number__73 e (47 : Int64) (nI 0) (nI 23) (va_up K 84 (va_up (K 84) (nI (3 * (24 + t 0 4)) + nI 1).toNatClampNeg r4)) M2 (fun r7 I8 L9 => (vp_in (nI (3 * (24 + t 0 4)) + nI 2) 90 ∧ Q (va_up (va_up I8 84 (va_up (I8 84) (nI (3 * (24 + t 0 4)) + nI 2).toNatClampNeg r7)) 80 (va_up (I8 80) 23 ((I8 80 23) + nI 1))) L9)) := by
    intro f s r4 K M2 hs hF
    rw [ek1]
    refine nf_numw (MF_84 hF (by omega) (by omega)) ⟨vk2, ?_⟩
    rw [ek2]
    exact hfin f s _ _ M2 hs (MF_84 hF (by omega) (by omega))
  have hbad : ∀ f s W M2, pErrand b n t p0 = .inl (f, s) → MF I0 L0 f s W M2 → C_X11_crossingHere_73 e W M2 (fun r4 I5 L6 => (vp_in (nI (3 * (24 + t 0 4)) + nI 1) 90 ∧ C_X11_number__73 e (47 : Int64) (nI 0) (nI 23) (va_up I5 84 (va_up (I5 84) (nI (3 * (24 + t 0 4)) + nI 1).toNatClampNeg r4)) L6 (fun r7 I8 L9 => (vp_in (nI (3 * (24 + t 0 4)) + nI 2) 90 ∧ Q (va_up (va_up I8 84 (va_up (I8 84) (nI (3 * (24 + t 0 4)) + nI 2).toNatClampNeg r7)) 80 (va_up (I8 80) 23 ((I8 80 23) + nI 1))) L9)))) := by
    intro f s W M2 hs hF
    exact nf_cross hF ⟨vk1, hbad3 f s _ _ M2 hs hF⟩
  refine b_X11_errandLine_73 ?_
  have eix : nI 3 * (nI 24 + J 80 23) = nI (3 * (24 + t 0 4)) := by rw [e23, nI_add, pk_mul]
  have ecl : (nI (3 * (24 + t 0 4))).toNatClampNeg = 3 * (24 + t 0 4) := nI_clamp (by omega)
  rw [eix, ecl]
  have vk0 : vp_in (nI (3 * (24 + t 0 4))) 90 := vp_in_nI (by omega) (by decide)
  refine n_cross hG ⟨hc, o0⟩ (fun K1 M1 x p2 h2 hi2 _ _ f1 g1 => ?_) (fun K w s hf f1 hF => ?_)
  rotate_left
  · have hs : pErrand b n t p0 = .inl (w, s) := by simp only [pErrand, h6, if_false, bd_r, bd_l, hw, hf]
    exact ⟨vk0, fun h => absurd h (mf_ne hF), fun _ => hbad w s _ M hs (MF_84 hF (by omega) (by omega))⟩
  refine ⟨vk0, ?_⟩
  obtain ⟨k6, k7, k8, k9, ⟨v, v1, v2, v3⟩, k11⟩ := g1.2.1
  have hkl : tK b n p2 ≤ 4 := kAt_le _ _ _
  have gW := MG_84 (i := 3 * (24 + t 0 4)) (v := nI x) g1 (by omega) (by omega)
  have hgo : (tK b n p2 = 2 → tV b n p2 ≠ x) → ∀ W M2, W = va_up K1 84 (va_up (K1 84) (3 * (24 + t 0 4)) (nI x)) → M2 = M1 → C_X11_crossingHere_73 e W M2 (fun r4 I5 L6 => (vp_in (nI (3 * (24 + t 0 4)) + nI 1) 90 ∧ C_X11_number__73 e (47 : Int64) (nI 0) (nI 23) (va_up I5 84 (va_up (I5 84) (nI (3 * (24 + t 0 4)) + nI 1).toNatClampNeg r4)) L6 (fun r7 I8 L9 => (vp_in (nI (3 * (24 + t 0 4)) + nI 2) 90 ∧ Q (va_up (va_up I8 84 (va_up (I8 84) (nI (3 * (24 + t 0 4)) + nI 2).toNatClampNeg r7)) 80 (va_up (I8 80) 23 ((I8 80 23) + nI 1))) L9)))) := by
    intro hne W M2 hW hM2
    subst hW
    subst hM2
    refine n_cross gW ⟨hc, o0⟩ (fun K2 M2 y p4 h4 hi4 hy hk4 f2 g2 => ?_) (fun K w s hf f2 hF => ?_)
    rotate_left
    · exact ⟨vk1, hbad3 w s _ _ _ (by simp only [pErrand, h6, if_false, bd_r, bd_l, hw, h2, hf]) hF⟩
    have hxy : ¬ x = y := fun h => hne hk4 (by rw [← hy, h])
    refine ⟨vk1, ?_⟩
    rw [ek1]
    have g3 := MG_84 (i := 3 * (24 + t 0 4) + 1) (v := nI y) g2 (by omega) (by omega)
    refine n_numw (j := 7) g3 (by decide) (by decide) (by decide) (fun K4 M4 p7 u p9 h7 h9 lo9 hi9 f4 g4 => ?_) (fun K w s hf f4 hF => ?_) (fun K M' p7 w s h7 hf f4 hF => ?_)
    rotate_left
    · refine ⟨vk2, ?_⟩
      rw [ek2]
      exact hfin w s _ K _ (by simp only [pErrand, h6, if_false, bd_r, bd_l, hw, h2, h4, hxy, hf]) hF
    · refine ⟨vk2, ?_⟩
      rw [ek2]
      exact hfin w s _ K _ (by simp only [pErrand, h6, if_false, bd_r, bd_l, hw, h2, h4, hxy, h7, hf]) hF
    refine ⟨vk2, ?_⟩
    rw [ek2]
    refine hQ1 _ M4 (edT t x y u) p9 (by simp only [pErrand, h6, if_false, bd_r, bd_l, hw, h2, h4, hxy, h7, h9]) ?_
    have r84 : K4 84 = va_up (va_up (K1 84) (3 * (24 + t 0 4)) (nI x)) (3 * (24 + t 0 4) + 1) (nI y) := by
      rw [f4 84 (by decide), up_s, f2 84 (by decide), up_s]
    obtain ⟨a1, a2, a3, a4, a5, a6, a7, a8, a9, b1, b2, b3, b4, b5⟩ := g4.2.2.2.2.2
    refine MG_t g4 (fun a n1 n2 n3 => by rw [up_n n2, up_n n3]) (fun _ _ => rfl) (fun i hi => ?_) (fun i hi => ?_) ⟨a1, a2, a3, a4, ?_, a6, a7, a8, a9, fun j hj => ?_, fun j hj => ?_, fun j hj => ?_, b4, b5⟩
    · show va_up (K4 80) 23 _ i = _
      rw [up_n (by omega)]
    · show va_up (K4 84) _ _ i = _
      rw [up_n (by omega)]
    · show K4 80 23 + nI 1 = nI (t 0 4 + 1)
      rw [show K4 80 23 = nI (t 0 4) from a5, nI_add]
    · have hj' : j < t 0 4 + 1 := hj
      show va_up (K4 84) _ _ (18 * 4 + 3 * j) = nI (va_up (t 4) (t 0 4) x j)
      rw [up_n (by omega)]
      by_cases he : j = t 0 4
      · rw [he, up_s, r84, up_n (by omega), show 18 * 4 + 3 * t 0 4 = 3 * (24 + t 0 4) from by omega, up_s]
      · rw [up_n he]; exact b1 j (by omega)
    · have hj' : j < t 0 4 + 1 := hj
      show va_up (K4 84) _ _ (18 * 4 + (3 * j + 1)) = nI (va_up (t 5) (t 0 4) y j)
      rw [up_n (by omega)]
      by_cases he : j = t 0 4
      · rw [he, up_s, r84, show 18 * 4 + (3 * t 0 4 + 1) = 3 * (24 + t 0 4) + 1 from by omega, up_s]
      · rw [up_n he]; exact b2 j (by omega)
    · have hj' : j < t 0 4 + 1 := hj
      show va_up (K4 84) _ _ (18 * 4 + (3 * j + 2)) = nI (va_up (t 6) (t 0 4) u j)
      by_cases he : j = t 0 4
      · rw [he, up_s, show 18 * 4 + (3 * t 0 4 + 2) = 3 * (24 + t 0 4) + 2 from by omega, up_s]
      · rw [up_n he, up_n (by omega)]; exact b3 j (by omega)
  refine ⟨fun _ => ?_, fun h0 => absurd g1.2.2.1 h0⟩
  rw [k8, v2]
  refine ⟨fun hkk => ⟨vk0, ?_⟩, fun hkk => hgo (fun h => absurd (by rw [h]) hkk) _ _ rfl rfl⟩
  rw [nI_eq (by omega) (by decide)] at hkk
  have hvx := val_eq (x := x) (v3 hkk) (by omega)
  rw [up_s]
  refine ⟨fun he => ⟨fun _ => ?_, fun h0 => absurd g1.2.2.1 h0⟩, fun he => hgo (fun _ h => ?_) _ _ rfl rfl⟩
  · rw [nI_eq (by omega) (by omega)] at he
    have hin : pN b n 0 (t 0 0 - 1) p2 = .inr (x, tE b n p2) := by
      unfold pN
      rw [if_pos hkk, if_pos (by omega), hvx.1.mp he]
    exact hbad 2 (tS b n p2) _ M1 (by simp only [pErrand, h6, if_false, bd_r, bd_l, hw, h2, hin, if_true]) (n_fail gW (by omega))
  · rw [nI_eq (by omega) (by omega)] at he
    omega
theorem isW_ne {j j' i : Nat} (h : isW b n p j) (h' : isW b n p j') (hl : i < am_xl.getD j 0) (hl' : i < am_xl.getD j' 0) (hx : ¬ xch j i = xch j' i) : False := hx ((h.2.2 i hl).symm.trans (h'.2.2 i hl'))
theorem isW_nl {j j' : Nat} (h : isW b n p j) (h' : isW b n p j') (hl : ¬ am_xl.getD j 0 = am_xl.getD j' 0) : False := hl (h.2.1.symm.trans h'.2.1)
theorem m_line {Q : (Nat → Nat → Int32) → (Nat → Nat → Int64) → Prop} (hk : tok t) (h0 : t 0 3 ≠ 0) (hG : MG I0 L0 b n t p J M) (hQ1 : ∀ K M' t' q, pBody b n t p = .inr (t', q) → MG I0 L0 b n t' q K M' → Q K M') (hQ2 : ∀ K M' w s, pBody b n t p = .inl (w, s) → MF I0 L0 w s K M' → Q K M') : C_X11_line_73 e J M Q := by
  have hk2 := hk
  obtain ⟨o0, oT, oZ, oY, oD, o9, oN, o28, oB, oX, oE, oF, oA, oH, oU, oV⟩ := hk
  have hc : 1 ≤ t 0 0 := by
    rcases Nat.eq_zero_or_pos (t 0 0) with h4 | h4
    · exact absurd (oT.mpr h4) h0
    · exact h4
  have h12 := hG.2.2.1
  have hkl : tK b n p ≤ 4 := kAt_le _ _ _
  have e23 : J 80 23 = nI (t 0 4) := hG.2.2.2.2.2.2.2.2.2.1
  have hst : ¬ isW b n p 6 → C_X11_takes_73 e (283616147 : Int64) J M (fun r13 I14 L15 => ((r13 = nI 0 → C_X11_asks_73 e (409469 : Int64) I14 L15 (fun I17 L18 => C_X11_turnLine_73 e I17 L18 (fun I20 L21 => Q I20 L21))) ∧ (¬ r13 = nI 0 → C_X11_streetLine_73 e I14 L15 (fun I23 L24 => Q I23 L24)))) := by
    intro hn6
    refine n_takes (j := 4) hG (by decide) (fun K M1 hw4 f1 g1 => ⟨fun h => absurd h (by decide), fun _ => ?_⟩) (fun hw4 => ⟨fun _ => ?_, fun h => absurd rfl h⟩)
    · have hn0 : ¬ isW b n p 0 := fun h => isW_nl hw4 h (by decide)
      have hb : pBody b n t p = pStreet b n t p := by unfold pBody; rw [if_neg h0, if_neg hn0, if_pos hw4]
      exact m_street hk2 hc g1 (pW_t hw4) (fun K M' t' q h g => hQ1 K M' t' q (by rw [hb]; exact h) g) (fun K M' w s h hF => hQ2 K M' w s (by rw [hb]; exact h) hF)
    · refine n_asks (j := 5) hG (by decide) (fun K M1 q hw5 f1 g1 => ?_) (fun K w s hf f1 hF => ?_)
      · have hw := (pW_i hw5).1
        have hn0 : ¬ isW b n p 0 := fun h => isW_ne (i := 1) hw h (by decide) (by decide) (by decide)
        have hb : pBody b n t p = pTurn b n t p := by unfold pBody; rw [if_neg h0, if_neg hn0, if_neg hw4, if_pos hw]
        exact m_turn hk2 hc g1 hw5 (fun K M' t' q h g => hQ1 K M' t' q (by rw [hb]; exact h) g) (fun K M' w s h hF => hQ2 K M' w s (by rw [hb]; exact h) hF)
      · have hw5 : ¬ isW b n p 5 := fun h => by rw [pW_t h] at hf; cases hf
        have hs : pBody b n t p = .inl (w, s) := by
          rw [pW_f hw5] at hf
          unfold pBody
          rw [if_neg h0, if_neg hw4, if_neg hw5, if_neg hn6]
          by_cases hn0 : isW b n p 0
          · rw [if_pos hn0]; exact congrArg Sum.inl (Sum.inl.inj hf)
          · rw [if_neg hn0]; exact congrArg Sum.inl (Sum.inl.inj hf)
        have hq := hQ2 K M w s hs hF
        repeat' (first | exact hq | refine nf_cross hF ?_ | refine b_X11_turnLine_73 ?_ | refine nf_num hF ?_ | refine nf_numw hF ?_ | refine b_X11_streetLine_73_p33 ?_ | refine b_X11_streetLine_73_p94 ?_ | refine b_X11_turnLine_73_p49 ?_ | refine b_X11_turnLine_73_p98 ?_ | refine ⟨fun h => absurd h (mf_ne hF), fun _ => ?_⟩)
  refine b_X11_line_73 ⟨fun _ => ?_, fun h => absurd h12 h⟩
  rw [hG.2.1.2.2.1, e23]
  refine ⟨fun hkk => ?_, fun hkk => ⟨fun _ => hst (fun hw => ?_), fun h => absurd h12 h⟩⟩
  · rw [nI_eq (by omega) (by decide)] at hkk
    have hw6 := hG.2.1.2.2.2.2.2 hkk 6 (by decide)
    refine ⟨fun he => ?_, fun he => ⟨fun _ => hst (fun hw => he (hw6.mpr hw)), fun h => absurd h12 h⟩⟩
    have hw := hw6.mp he
    have hn0 : ¬ isW b n p 0 := fun h => isW_nl hw h (by decide)
    have hn4 : ¬ isW b n p 4 := fun h => isW_ne (i := 0) hw h (by decide) (by decide) (by decide)
    have hn5 : ¬ isW b n p 5 := fun h => isW_nl hw h (by decide)
    have hb : pBody b n t p = pErrand b n t p := by unfold pBody; rw [if_neg h0, if_neg hn0, if_neg hn4, if_neg hn5, if_pos hw]
    refine ⟨fun h6 => ⟨fun _ => ?_, fun h => absurd h12 h⟩, fun h6 => ⟨fun _ => ?_, fun h => absurd h12 h⟩⟩
    · rw [nI_eq (by omega) (by decide)] at h6
      refine hQ2 _ M 3 _ ?_ (n_fail hG (by omega))
      rw [hb]
      unfold pErrand
      rw [if_pos (by omega)]
    · rw [nI_eq (by omega) (by decide)] at h6
      refine n_next hG (fun K M1 f1 g1 => ?_)
      exact m_errand hk2 hc g1 (pW_t hw) (by omega) (fun K M' t' q h g => hQ1 K M' t' q (by rw [hb]; exact h) g) (fun K M' w s h hF => hQ2 K M' w s (by rw [hb]; exact h) hF)
  · rw [nI_eq (by omega) (by decide)] at hkk
    exact hkk hw.1
theorem n_ends {Q : (Nat → Nat → Int32) → (Nat → Nat → Int64) → Prop} (h : MG I0 L0 b n t p J M) (hQ1 : ∀ K M', tK b n p = 3 → (∀ a, a ≠ 73 → K a = J a) → MG I0 L0 b n t (tE b n p) K M' → Q K M') (hQ2 : ∀ K, tK b n p ≠ 3 → (∀ a, a ≠ 73 → K a = J a) → MF I0 L0 1 (tS b n p) K M → Q K M) : C_X11_ends_73 e J M Q := by
  have hkl : tK b n p ≤ 4 := kAt_le _ _ _
  refine b_X11_ends_73 ?_
  rw [h.2.1.2.2.1]
  refine ⟨fun hk => ⟨fun _ => n_next h (fun K M' f g => hQ1 K M' ?_ f g), fun h0 => absurd h.2.2.1 h0⟩, fun hk => ⟨fun _ => hQ2 _ ?_ (fun a ha => by rw [up_n ha, up_n ha]) (n_fail h (by omega)), fun h0 => absurd h.2.2.1 h0⟩⟩
  · rw [nI_eq (by omega) (by decide)] at hk; exact hk
  · rw [nI_eq (by omega) (by decide)] at hk; exact hk
end RN
/-- the reference's room for what is read, cleared -/
theorem c_clears {e : am_V} {I : Nat → Nat → Int32} {L : Nat → Nat → Int64} {Q : (Nat → Nat → Int32) → Prop} (hQ : ∀ K, (∀ a, (a < 79 ∨ 83 < a) → K a = I a) → (∀ i, i ≠ 4 → K 79 i = I 79 i) → (∀ i, (i < 20 ∨ 25 ≤ i) → K 80 i = I 80 i) → (∀ i, (i < 256 ∨ 320 ≤ i) → K 81 i = I 81 i) → (∀ i, (i < 2048 ∨ 2560 ≤ i) → K 82 i = I 82 i) → (∀ i, (i < 2048 ∨ 2560 ≤ i) → K 83 i = I 83 i) → K 79 4 = nI 0 → (∀ k, k < 5 → K 80 (20 + k) = nI 0) → (∀ k, k < 64 → K 81 (256 + k) = nI 0) → (∀ k, k < 512 → K 82 (2048 + k) = nI 0 ∧ K 83 (2048 + k) = nI 0) → Q K) : C_X11_clears_73 e I L Q := by
  refine b_X11_clears_73 ?_
  refine lp_up (n := 5) (S := Nat → Nat → Int32) (T := fun k K => T_X11_clears_73_p9 e (nI k) K L Q) (fun k K => (∀ a, a ≠ 79 → a ≠ 80 → K a = I a) ∧ (∀ i, i ≠ 4 → K 79 i = I 79 i) ∧ (∀ i, (i < 20 ∨ 25 ≤ i) → K 80 i = I 80 i) ∧ K 79 4 = nI 0 ∧ (∀ j, j < k → K 80 (20 + j) = nI 0)) ?_ ?_ 0 _ (Nat.zero_le _) ⟨fun a h _ => up_n h, fun i hi => by show va_up (I 79) 4 (nI 0) i = _; rw [up_n hi], fun _ _ => rfl, rfl, fun j h => absurd h (Nat.not_lt_zero _)⟩
  · rintro k K hk ⟨i1, i2, i3, i4, i5⟩ hnext
    have q1 : (5 ≤ k) = False := eq_false (by omega)
    refine b_X11_clears_73_p9 ?_
    simp (disch := omega) only [pk_mul, nI_add, ksub, kdv, kd8, kd64, kd2, kd3, km8, km64, kt8, ke8, ke64, kcl, kin, kle, klt, keq, up_s, up_n, up_u, true_and, and_true, false_implies, true_implies, not_false_eq_true, not_true_eq_false, q1]
    refine hnext _ ⟨fun a h1 h2 => by rw [up_n h2]; exact i1 a h1 h2, i2, fun i hi => ?_, i4, fun j hj => ?_⟩
    · show va_up (K 80) _ _ i = _
      rw [up_n (by omega)]; exact i3 i hi
    · show va_up (K 80) _ _ _ = _
      by_cases he : j = k
      · rw [he, up_s]
      · rw [up_n (by omega)]; exact i5 j (by omega)
  · rintro K ⟨i1, i2, i3, i4, i5⟩
    have q1 : (5 ≤ 5) = True := eq_true (Nat.le_refl _)
    refine b_X11_clears_73_p9 ?_
    simp (disch := omega) only [pk_mul, nI_add, ksub, kdv, kd8, kd64, kd2, kd3, km8, km64, kt8, ke8, ke64, kcl, kin, kle, klt, keq, up_s, up_n, up_u, true_and, and_true, false_implies, true_implies, not_false_eq_true, not_true_eq_false, q1]
    refine lp_up (n := 64) (S := Nat → Nat → Int32) (T := fun k K2 => T_X11_clears_73_p32 e (nI k) K2 L Q) (fun k K2 => (∀ a, a ≠ 81 → K2 a = K a) ∧ (∀ i, (i < 256 ∨ 320 ≤ i) → K2 81 i = K 81 i) ∧ (∀ j, j < k → K2 81 (256 + j) = nI 0)) ?_ ?_ 0 K (Nat.zero_le _) ⟨fun _ _ => rfl, fun _ _ => rfl, fun j h => absurd h (Nat.not_lt_zero _)⟩
    · rintro k K2 hk ⟨j1, j2, j3⟩ hnext
      have q2 : (64 ≤ k) = False := eq_false (by omega)
      refine b_X11_clears_73_p32 ?_
      simp (disch := omega) only [pk_mul, nI_add, ksub, kdv, kd8, kd64, kd2, kd3, km8, km64, kt8, ke8, ke64, kcl, kin, kle, klt, keq, up_s, up_n, up_u, true_and, and_true, false_implies, true_implies, not_false_eq_true, not_true_eq_false, q2]
      refine hnext _ ⟨fun a h1 => by rw [up_n h1]; exact j1 a h1, fun i hi => ?_, fun j hj => ?_⟩
      · show va_up (K2 81) _ _ i = _
        rw [up_n (by omega)]; exact j2 i hi
      · show va_up (K2 81) _ _ _ = _
        by_cases he : j = k
        · rw [he, up_s]
        · rw [up_n (by omega)]; exact j3 j (by omega)
    · rintro K2 ⟨j1, j2, j3⟩
      have q2 : (64 ≤ 64) = True := eq_true (Nat.le_refl _)
      refine b_X11_clears_73_p32 ?_
      simp (disch := omega) only [pk_mul, nI_add, ksub, kdv, kd8, kd64, kd2, kd3, km8, km64, kt8, ke8, ke64, kcl, kin, kle, klt, keq, up_s, up_n, up_u, true_and, and_true, false_implies, true_implies, not_false_eq_true, not_true_eq_false, q2]
      refine lp_up (n := 512) (S := Nat → Nat → Int32) (T := fun k K3 => T_X11_clears_73_p57 e (nI k) K3 L Q) (fun k K3 => (∀ a, a ≠ 82 → a ≠ 83 → K3 a = K2 a) ∧ (∀ i, (i < 2048 ∨ 2560 ≤ i) → K3 82 i = K2 82 i ∧ K3 83 i = K2 83 i) ∧ (∀ j, j < k → K3 82 (2048 + j) = nI 0 ∧ K3 83 (2048 + j) = nI 0)) ?_ ?_ 0 K2 (Nat.zero_le _) ⟨fun _ _ _ => rfl, fun _ _ => ⟨rfl, rfl⟩, fun j h => absurd h (Nat.not_lt_zero _)⟩
      · rintro k K3 hk ⟨l1, l2, l3⟩ hnext
        have q3 : (512 ≤ k) = False := eq_false (by omega)
        refine b_X11_clears_73_p57 ?_
        simp (disch := omega) only [pk_mul, nI_add, ksub, kdv, kd8, kd64, kd2, kd3, km8, km64, kt8, ke8, ke64, kcl, kin, kle, klt, keq, up_s, up_n, up_u, true_and, and_true, false_implies, true_implies, not_false_eq_true, not_true_eq_false, q3]
        refine hnext _ ⟨fun a h1 h2 => by rw [up_n h2, up_n h1]; exact l1 a h1 h2, fun i hi => ?_, fun j hj => ?_⟩
        · show va_up (K3 82) _ _ i = _ ∧ va_up (K3 83) _ _ i = _
          rw [up_n (by omega), up_n (by omega)]; exact l2 i hi
        · show va_up (K3 82) _ _ _ = _ ∧ va_up (K3 83) _ _ _ = _
          by_cases he : j = k
          · rw [he, up_s, up_s]; exact ⟨rfl, rfl⟩
          · rw [up_n (by omega), up_n (by omega)]; exact l3 j (by omega)
      · rintro K3 ⟨l1, l2, l3⟩
        have q3 : (512 ≤ 512) = True := eq_true (Nat.le_refl _)
        refine b_X11_clears_73_p57 ?_
        simp (disch := omega) only [pk_mul, nI_add, ksub, kdv, kd8, kd64, kd2, kd3, km8, km64, kt8, ke8, ke64, kcl, kin, kle, klt, keq, up_s, up_n, up_u, true_and, and_true, false_implies, true_implies, not_false_eq_true, not_true_eq_false, q3]
        have e81 : K3 81 = K2 81 := l1 81 (by decide) (by decide)
        have e80 : K3 80 = K 80 := (l1 80 (by decide) (by decide)).trans (j1 80 (by decide))
        have e79 : K3 79 = K 79 := (l1 79 (by decide) (by decide)).trans (j1 79 (by decide))
        refine hQ K3 (fun a ha => (l1 a (by omega) (by omega)).trans ((j1 a (by omega)).trans (i1 a (by omega) (by omega)))) (by rw [e79]; exact i2) (by rw [e80]; exact i3) (fun i hi => ?_) (fun i hi => ?_) (fun i hi => ?_) (by rw [e79]; exact i4) (by rw [e80]; exact i5) (by rw [e81]; exact j3) l3
        · rw [e81, j2 i hi, i1 81 (by decide) (by decide)]
        · rw [(l2 i hi).1, j1 82 (by decide), i1 82 (by decide) (by decide)]
        · rw [(l2 i hi).2, j1 83 (by decide), i1 83 (by decide) (by decide)]
/-- a town told, the reference's side -/
theorem m_town {e : am_V} {I : Nat → Nat → Int32} {L : Nat → Nat → Int64} {Q : Int32 → (Nat → Nat → Int32) → (Nat → Nat → Int64) → Prop} {b : Nat → Int32} {n : Nat} (hb : ∀ k, k < 1600 → I 78 k = b k) (hn : n ≤ 1600) (h6 : I 73 6 = nI n) (hQ1 : ∀ t p J M, pAll b n (n + 1) t0z 0 = .inr t → tok t → t 0 5 = 0 → MG (va_up I 73 (va_up (I 73) 0 (nI 0))) L b n t p J M → ∀ K, cpW 4 0 (va_up (va_up (va_up J 73 (va_up (J 73) 6 (nI 0))) 73 (va_up (va_up (J 73) 6 (nI 0)) 14 (J 73 12))) 73 (va_up (va_up (va_up (J 73) 6 (nI 0)) 14 (J 73 12)) 15 (-1 : Int32))) K → Q (K 79 0) K M) (hQ2 : ∀ w s J M, pAll b n (n + 1) t0z 0 = .inl (w, s) → MF (va_up I 73 (va_up (I 73) 0 (nI 0))) L w s J M → Q (-4 : Int32) (va_up (va_up (va_up J 73 (va_up (J 73) 6 (nI 0))) 73 (va_up (va_up (J 73) 6 (nI 0)) 14 (J 73 12))) 73 (va_up (va_up (va_up (J 73) 6 (nI 0)) 14 (J 73 12)) 15 (J 73 13))) M) : C_X11_town_73 e I L Q := by
  generalize hI0 : va_up I 73 (va_up (I 73) 0 (nI 0)) = I0 at hQ1 hQ2
  have hbad : ∀ w s J M, pAll b n (n + 1) t0z 0 = .inl (w, s) → MF I0 L w s J M → T_X11_town_73_p13 e J M Q := by
    intro w s J M h hF
    exact b_X11_town_73_p13 ⟨fun h0 => absurd h0 (mf_ne hF), fun _ => ⟨fun h0 => absurd h0 (mf_ne hF), fun _ => ⟨fun h0 => absurd h0 (mf_ne hF), fun _ => hQ2 w s J M h hF⟩⟩⟩
  have hlp : ∀ m t p J M, n + 1 ≤ m + tS b n p → pAll b n (n + 1) t0z 0 = pAll b n m t p → tok t → t 0 5 = 0 → t 0 3 ≤ tS b n p → MG I0 L b n t p J M → T_X11_town_73_p13 e J M Q := by
    intro m
    induction m with
    | zero =>
      intro t p J M hm _ _ _ _ g
      have := tS_b (b := b) g.1.2.2
      omega
    | succ m ih =>
      intro t p J M hm hA ht h05 h03 g
      have hsb := tS_b (b := b) g.1.2.2
      have hkl : tK b n p ≤ 4 := kAt_le _ _ _
      have h12 := g.2.2.1
      refine b_X11_town_73_p13 ⟨fun _ => ?_, fun h => absurd h12 h⟩
      have e8 : J 73 8 = nI (tK b n p) := g.2.1.2.2.1
      have e79 : J 79 4 = nI (t 0 3) := g.2.2.2.2.2.1
      rw [e8, e79]
      refine ⟨fun h0 => ?_, fun h0 => ?_⟩
      · rw [nI_eq (by omega) (by decide)] at h0
        have hA2 : pAll b n (n + 1) t0z 0 = .inr t := by
          rw [hA]
          show (if tK b n p = 0 then _ else _) = _
          rw [if_pos h0]
        exact ⟨fun _ => ⟨fun _ => c_copyTown (by decide) (by decide) (by decide) (fun K hK => hQ1 t p J M hA2 ht h05 g K hK), fun h => absurd h12 h⟩, fun h => absurd h12 h⟩
      · rw [nI_eq (by omega) (by decide)] at h0
        have hA2 : pAll b n (n + 1) t0z 0 = bd (pLine b n t p) (fun q => pAll b n m q.1 q.2) := by
          rw [hA]
          show (if tK b n p = 0 then _ else _) = _
          rw [if_neg h0]
        -- behind a line's body
        have hgood : ∀ K M1 t1 q1, pBody b n t p = .inr (t1, q1) → MG I0 L b n t1 q1 K M1 → C_X11_ends_73 e K M1 (fun I70 L71 => T_X11_town_73_p13 e (va_up I70 79 (va_up (I70 79) 4 ((I70 79 4) + nI 1))) L71 Q) := by
          intro K M1 t1 q1 h1 g1
          have hb1 := pBody_i ht h05 (by omega) g.1.2.2 h1
          refine n_ends g1 (fun K2 M2 hk3 f2 g2 => ?_) (fun K2 hk3 f2 hF => ?_)
          · have hl : pLine b n t p = .inr (lnT t1, tE b n q1) := by simp only [pLine, h1, bd_r, hk3, if_true]
            have hi := pLine_i ht h05 (by omega) g.1.2.2 hl
            rw [hl, bd_r] at hA2
            have hq := tS_b (b := b) hi.1.2
            refine ih (lnT t1) (tE b n q1) _ M2 (by omega) hA2 hi.2.1 hi.2.2.1 (by omega) ?_
            obtain ⟨a1, a2, a3, a4, a5, a6, a7, a8, a9, b1, b2, b3, b4, b5⟩ := g2.2.2.2.2.2
            refine MG_t g2 (fun a n1 _ _ => up_n n1) (fun i hi => ?_) (fun _ _ => rfl) (fun _ _ => rfl) ⟨?_, a2, a3, a4, a5, a6, a7, a8, a9, b1, b2, b3, b4, b5⟩
            · show va_up (K2 79) 4 _ i = _
              rw [up_n hi]
            · show K2 79 4 + nI 1 = nI (t1 0 3 + 1)
              rw [a1, nI_add]
          · have hl : pLine b n t p = .inl (1, tS b n q1) := by simp only [pLine, h1, bd_r, hk3, if_false]
            rw [hl, bd_l] at hA2
            exact hbad _ _ _ _ hA2 (MF_79 hF (fun a ha => up_n ha) (fun i hi => by show va_up (K2 79) 4 _ i = _; rw [up_n hi]))
        have hpb : ∀ w s, pBody b n t p = .inl (w, s) → pAll b n (n + 1) t0z 0 = .inl (w, s) := by
          intro w s h1
          have hl : pLine b n t p = .inl (w, s) := by simp only [pLine, h1, bd_l]
          rw [hA2, hl, bd_l]
        refine ⟨fun h3 => ?_, fun h3 => ?_⟩
        · rw [nI_eq (by omega) (by decide)] at h3
          have hbt : pBody b n t p = pTown b n t p := by unfold pBody; rw [if_pos h3]
          have f4 : ∀ w s r60 K M1, pAll b n (n + 1) t0z 0 = .inl (w, s) → MF I0 L w s K M1 → (((K 73 12) = nI 0 → C_X11_ends_73 e (va_up K 80 (va_up (K 80) 22 r60)) M1 (fun I64 L65 => T_X11_town_73_p13 e (va_up I64 79 (va_up (I64 79) 4 ((I64 79 4) + nI 1))) L65 Q)) ∧ (¬ (K 73 12) = nI 0 → T_X11_town_73_p13 e (va_up (va_up K 80 (va_up (K 80) 22 r60)) 79 (va_up (K 79) 4 ((K 79 4) + nI 1))) M1 Q)) := by
            intro w s r60 K M1 hs hF
            refine ⟨fun h => absurd h (mf_ne hF), fun _ => hbad w s _ M1 hs (MF_79 (MF_80 hF (by decide) (by decide)) (fun a ha => up_n ha) (fun i hi => ?_))⟩
            show va_up (K 79) 4 _ i = K 79 i
            rw [up_n hi]
          have f3 : ∀ w s r57 K M1, pAll b n (n + 1) t0z 0 = .inl (w, s) → MF I0 L w s K M1 → C_X11_number__73 e (158523 : Int64) (nI 0) (nI 3) (va_up K 80 (va_up (K 80) 21 r57)) M1 (fun r60 I61 L62 => (((I61 73 12) = nI 0 → C_X11_ends_73 e (va_up I61 80 (va_up (I61 80) 22 r60)) L62 (fun I64 L65 => T_X11_town_73_p13 e (va_up I64 79 (va_up (I64 79) 4 ((I64 79 4) + nI 1))) L65 Q)) ∧ (¬ (I61 73 12) = nI 0 → T_X11_town_73_p13 e (va_up (va_up I61 80 (va_up (I61 80) 22 r60)) 79 (va_up (I61 79) 4 ((I61 79 4) + nI 1))) L62 Q))) := by
            intro w s r57 K M1 hs hF
            exact nf_numw (MF_80 hF (by decide) (by decide)) (f4 w s _ _ M1 hs (MF_80 hF (by decide) (by decide)))
          have f2 : ∀ w s r54 K M1, pAll b n (n + 1) t0z 0 = .inl (w, s) → MF I0 L w s K M1 → C_X11_number__73 e (427348 : Int64) (nI 0) (nI 3) (va_up K 80 (va_up (K 80) 20 r54)) M1 (fun r57 I58 L59 => C_X11_number__73 e (158523 : Int64) (nI 0) (nI 3) (va_up I58 80 (va_up (I58 80) 21 r57)) L59 (fun r60 I61 L62 => (((I61 73 12) = nI 0 → C_X11_ends_73 e (va_up I61 80 (va_up (I61 80) 22 r60)) L62 (fun I64 L65 => T_X11_town_73_p13 e (va_up I64 79 (va_up (I64 79) 4 ((I64 79 4) + nI 1))) L65 Q)) ∧ (¬ (I61 73 12) = nI 0 → T_X11_town_73_p13 e (va_up (va_up I61 80 (va_up (I61 80) 22 r60)) 79 (va_up (I61 79) 4 ((I61 79 4) + nI 1))) L62 Q)))) := by
            intro w s r54 K M1 hs hF
            exact nf_numw (MF_80 hF (by decide) (by decide)) (f3 w s _ _ M1 hs (MF_80 hF (by decide) (by decide)))
          have f1 : ∀ w s K M1, pAll b n (n + 1) t0z 0 = .inl (w, s) → MF I0 L w s K M1 → C_X11_number__73 e (1041669188605 : Int64) (nI 2) (nI 8) K M1 (fun r54 I55 L56 => C_X11_number__73 e (427348 : Int64) (nI 0) (nI 3) (va_up I55 80 (va_up (I55 80) 20 r54)) L56 (fun r57 I58 L59 => C_X11_number__73 e (158523 : Int64) (nI 0) (nI 3) (va_up I58 80 (va_up (I58 80) 21 r57)) L59 (fun r60 I61 L62 => (((I61 73 12) = nI 0 → C_X11_ends_73 e (va_up I61 80 (va_up (I61 80) 22 r60)) L62 (fun I64 L65 => T_X11_town_73_p13 e (va_up I64 79 (va_up (I64 79) 4 ((I64 79 4) + nI 1))) L65 Q)) ∧ (¬ (I61 73 12) = nI 0 → T_X11_town_73_p13 e (va_up (va_up I61 80 (va_up (I61 80) 22 r60)) 79 (va_up (I61 79) 4 ((I61 79 4) + nI 1))) L62 Q))))) := by
            intro w s K M1 hs hF
            exact nf_numw hF (f2 w s _ _ M1 hs hF)
          refine n_asks (j := 0) g (by decide) (fun K1 M1 p1 h1 r1 g1 => ?_) (fun K w s hf r1 hF => f1 w s K M (hpb w s (by rw [hbt]; simp only [pTown, bd_l, bd_r, hf])) hF)
          refine n_numw (j := 1) g1 (by decide) (by decide) (by decide) (fun K2 M2 p2 c p3 h2 h3' lo3 hi3 r2 g2 => ?_) (fun K w s hf r2 hF => f2 w s _ K M1 (hpb w s (by rw [hbt]; simp only [pTown, bd_l, bd_r, h1, hf])) hF) (fun K M' p2 w s h2 hf r2 hF => f2 w s _ K M' (hpb w s (by rw [hbt]; simp only [pTown, bd_l, bd_r, h1, h2, hf])) hF)
          have g2' : MG I0 L b n (twT t c (t 0 1) (t 0 2)) p3 (va_up K2 80 (va_up (K2 80) 20 (nI c))) M2 := by
            obtain ⟨a1, a2, a3, a4, a5, a6, a7, a8, a9, b1, b2, b3, b4, b5⟩ := g2.2.2.2.2.2
            refine MG_t g2 (fun a _ n2 _ => up_n n2) (fun _ _ => rfl) (fun i hi => ?_) (fun _ _ => rfl) ⟨a1, rfl, a3, a4, a5, a6, a7, a8, a9, b1, b2, b3, b4, b5⟩
            show va_up (K2 80) 20 _ i = _
            rw [up_n (by omega)]
          refine n_numw (j := 2) g2' (by decide) (by decide) (by decide) (fun K3 M3 p4 u p5 h4 h5 lo5 hi5 r3 g3 => ?_) (fun K w s hf r3 hF => f3 w s _ K M2 (hpb w s (by rw [hbt]; simp only [pTown, bd_l, bd_r, h1, h2, h3', hf])) hF) (fun K M' p4 w s h4 hf r3 hF => f3 w s _ K M' (hpb w s (by rw [hbt]; simp only [pTown, bd_l, bd_r, h1, h2, h3', h4, hf])) hF)
          have g3' : MG I0 L b n (twT t c u (t 0 2)) p5 (va_up K3 80 (va_up (K3 80) 21 (nI u))) M3 := by
            obtain ⟨a1, a2, a3, a4, a5, a6, a7, a8, a9, b1, b2, b3, b4, b5⟩ := g3.2.2.2.2.2
            refine MG_t g3 (fun a _ n2 _ => up_n n2) (fun _ _ => rfl) (fun i hi => ?_) (fun _ _ => rfl) ⟨a1, a2, rfl, a4, a5, a6, a7, a8, a9, b1, b2, b3, b4, b5⟩
            show va_up (K3 80) 21 _ i = _
            rw [up_n (by omega)]
          refine n_numw (j := 3) g3' (by decide) (by decide) (by decide) (fun K4 M4 p6 v p7 h6' h7 lo7 hi7 r4 g4 => ?_) (fun K w s hf r4 hF => f4 w s _ K M3 (hpb w s (by rw [hbt]; simp only [pTown, bd_l, bd_r, h1, h2, h3', h4, h5, hf])) hF) (fun K M' p6 w s h6' hf r4 hF => f4 w s _ K M' (hpb w s (by rw [hbt]; simp only [pTown, bd_l, bd_r, h1, h2, h3', h4, h5, h6', hf])) hF)
          have g4' : MG I0 L b n (twT t c u v) p7 (va_up K4 80 (va_up (K4 80) 22 (nI v))) M4 := by
            obtain ⟨a1, a2, a3, a4, a5, a6, a7, a8, a9, b1, b2, b3, b4, b5⟩ := g4.2.2.2.2.2
            refine MG_t g4 (fun a _ n2 _ => up_n n2) (fun _ _ => rfl) (fun i hi => ?_) (fun _ _ => rfl) ⟨a1, a2, a3, rfl, a5, a6, a7, a8, a9, b1, b2, b3, b4, b5⟩
            show va_up (K4 80) 22 _ i = _
            rw [up_n (by omega)]
          exact ⟨fun _ => hgood _ M4 (twT t c u v) p7 (by rw [hbt]; simp only [pTown, bd_l, bd_r, h1, h2, h3', h4, h5, h6', h7]) g4', fun h => absurd g4.2.2.1 h⟩
        · rw [nI_eq (by omega) (by decide)] at h3
          refine m_line ht h3 g (fun K M' t' q h g2 => ⟨fun _ => hgood K M' t' q h g2, fun h => absurd g2.2.2.1 h⟩) (fun K M' w s h hF => ⟨fun h => absurd h (mf_ne hF), fun _ => hbad w s _ M' (hpb w s h) (MF_79 hF (fun a ha => up_n ha) (fun i hi => ?_))⟩)
          show va_up (K 79) 4 _ i = _
          rw [up_n hi]
  refine b_X11_town_73 ?_
  rw [hI0]
  refine c_clears (fun K0 c1 c2 c3 c4 c5 c6 c7 c8 c9 c10 => ?_)
  have i0o : ∀ a, a ≠ 73 → I0 a = I a := fun a ha => by rw [← hI0, up_n ha]
  have i06 : I0 73 6 = nI n := by rw [← hI0, up_s, up_n (by decide)]; exact h6
  generalize hK1 : va_up (va_up (va_up K0 73 (va_up (K0 73) 12 (nI 0))) 73 (va_up (va_up (K0 73) 12 (nI 0)) 13 (-1 : Int32))) 73 (va_up (va_up (va_up (K0 73) 12 (nI 0)) 13 (-1 : Int32)) 7 (nI 0)) = K1
  have r73 : K1 73 = va_up (va_up (va_up (K0 73) 12 (nI 0)) 13 (-1 : Int32)) 7 (nI 0) := by rw [← hK1, up_s]
  have ro : ∀ a, a ≠ 73 → K1 a = K0 a := fun a ha => by rw [← hK1, up_n ha, up_n ha, up_n ha]
  have e73 : K0 73 = I0 73 := c1 73 (by omega)
  have hb0 : ∀ k, k < 1600 → I0 78 k = b k := fun k hk => by rw [i0o 78 (by decide)]; exact hb k hk
  refine c_next (b := b) (n := n) (p := 0) (fun k hk => by rw [ro 78 (by decide), c1 78 (by omega)]; exact hb0 k hk) hn (Nat.zero_le _) (by rw [r73, up_n (by decide), up_n (by decide), up_n (by decide), e73]; exact i06) (by rw [r73, up_s]) (fun K M f hM => ?_)
  refine hlp (n + 1) t0z 0 K M (by omega) rfl tok_0 rfl (Nat.zero_le _) ⟨⟨hb0, hn, Nat.zero_le _⟩, hM, ?_, ?_, f.2.2, ?_⟩
  · rw [f.2.1 12 (by decide) (by decide) (by decide) (by decide), r73, up_n (by decide), up_n (by decide), up_s]
  · have g : ∀ a, a ≠ 73 → K a = K0 a := fun a ha => (f.1 a ha).trans (ro a ha)
    refine ⟨fun a ha hb2 => (g a ha).trans (c1 a (by omega)), fun k hk => ?_, by rw [g 79 (by decide)]; exact c2, by rw [g 80 (by decide)]; exact c3, by rw [g 81 (by decide)]; exact c4, by rw [g 82 (by decide)]; exact c5, by rw [g 83 (by decide)]; exact c6, by rw [g 84 (by decide), c1 84 (by omega)]; exact fun _ _ => rfl⟩
    rw [f.2.1 k (by omega) (by omega) (by omega) (by omega), r73, up_n (by omega), up_n (by omega), up_n (by omega), e73]
  · have g : ∀ a, a ≠ 73 → K a = K0 a := fun a ha => (f.1 a ha).trans (ro a ha)
    refine ⟨by rw [g 79 (by decide)]; exact c7, by rw [g 80 (by decide)]; exact c8 0 (by decide), by rw [g 80 (by decide)]; exact c8 1 (by decide), by rw [g 80 (by decide)]; exact c8 2 (by decide), by rw [g 80 (by decide)]; exact c8 3 (by decide), by rw [g 80 (by decide)]; exact c8 4 (by decide), fun k hk => by rw [g 81 (by decide)]; exact c9 k hk, fun k hk => by rw [g 82 (by decide)]; exact (c10 k hk).1, fun k hk => by rw [g 83 (by decide)]; exact (c10 k hk).2, fun j h => absurd h (Nat.not_lt_zero _), fun j h => absurd h (Nat.not_lt_zero _), fun j h => absurd h (Nat.not_lt_zero _), fun j h => absurd h (Nat.not_lt_zero _), fun j h => absurd h (Nat.not_lt_zero _)⟩
