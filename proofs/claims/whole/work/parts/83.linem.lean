/-! a town told: the reference's lines -/
def frT (I0 J : Nat → Nat → Int32) : Prop := (∀ a, a ≠ 73 → (a < 79 ∨ 84 < a) → J a = I0 a) ∧ (∀ k, (k < 7 ∨ 13 < k) → J 73 k = I0 73 k) ∧ (∀ i, i ≠ 4 → J 79 i = I0 79 i) ∧ (∀ i, (i < 20 ∨ 25 ≤ i) → J 80 i = I0 80 i) ∧ (∀ i, (i < 256 ∨ 320 ≤ i) → J 81 i = I0 81 i) ∧ (∀ i, (i < 2048 ∨ 2560 ≤ i) → J 82 i = I0 82 i) ∧ (∀ i, (i < 2048 ∨ 2560 ≤ i) → J 83 i = I0 83 i) ∧ (∀ i, (i < 72 ∨ 90 ≤ i) → J 84 i = I0 84 i)
theorem frT_c {I0 J K : Nat → Nat → Int32} (h : frT I0 J) (hr : ∀ a, a ≠ 73 → K a = J a) (h7 : ∀ k, (k < 7 ∨ 13 < k) → K 73 k = J 73 k) : frT I0 K := by
  obtain ⟨h1, h2, h3, h4, h5, h6, h8, h9⟩ := h
  refine ⟨fun a ha hb => (hr a ha).trans (h1 a ha hb), fun k hk => (h7 k hk).trans (h2 k hk), ?_, ?_, ?_, ?_, ?_, ?_⟩
  · rw [hr 79 (by decide)]; exact h3
  · rw [hr 80 (by decide)]; exact h4
  · rw [hr 81 (by decide)]; exact h5
  · rw [hr 82 (by decide)]; exact h6
  · rw [hr 83 (by decide)]; exact h8
  · rw [hr 84 (by decide)]; exact h9
def MG (I0 : Nat → Nat → Int32) (L0 : Nat → Nat → Int64) (b : Nat → Int32) (n : Nat) (t : tw) (p : Nat) (J : Nat → Nat → Int32) (M : Nat → Nat → Int64) : Prop := ((∀ k, k < 1600 → I0 78 k = b k) ∧ n ≤ 1600 ∧ p ≤ n) ∧ MSt b n p J M ∧ J 73 12 = nI 0 ∧ frT I0 J ∧ (∀ a, a ≠ 73 → M a = L0 a) ∧ MTw 4 t J
def MF (I0 : Nat → Nat → Int32) (L0 : Nat → Nat → Int64) (f s : Nat) (J : Nat → Nat → Int32) (M : Nat → Nat → Int64) : Prop := (0 < f ∧ f ≤ 3) ∧ J 73 12 = nI f ∧ J 73 13 = nI s ∧ frT I0 J ∧ (∀ a, a ≠ 73 → M a = L0 a)
section RM
variable {e : am_V} {I0 J : Nat → Nat → Int32} {L0 M : Nat → Nat → Int64} {b : Nat → Int32} {n p : Nat} {t : tw}
theorem n_next {Q : (Nat → Nat → Int32) → (Nat → Nat → Int64) → Prop} (h : MG I0 L0 b n t p J M) (hQ : ∀ K M', (∀ a, a ≠ 73 → K a = J a) → MG I0 L0 b n t (tE b n p) K M' → Q K M') : C_X11_next_73 e J M Q := by
  obtain ⟨⟨h1, h2, h3⟩, ⟨k6, k7, k8, k9, k10, k11⟩, h4, h5, h6, h7⟩ := h
  have hE := tE_b (b := b) h3
  refine c_next (b := b) (n := n) (p := tE b n p) (fun k hk => by rw [h5.1 78 (by decide) (by omega)]; exact h1 k hk) h2 hE.2.1 k6 k7 (fun K M' f hM => hQ K M' f.1 ⟨⟨h1, h2, hE.2.1⟩, hM, by rw [f.2.1 12 (by decide) (by decide) (by decide) (by decide)]; exact h4, frT_c h5 f.1 (fun k hk => f.2.1 k (by omega) (by omega) (by omega) (by omega)), fun a ha => (f.2.2 a ha).trans (h6 a ha), MTw_c (fun a h8 h9 => f.1 a (by omega)) h7⟩)
theorem n_fail {w : Nat} (h : MG I0 L0 b n t p J M) (hw : 0 < w ∧ w ≤ 3) : MF I0 L0 w (tS b n p) (va_up (va_up J 73 (va_up (J 73) 12 (nI w))) 73 (va_up (va_up (J 73) 12 (nI w)) 13 (J 73 9))) M := by
  obtain ⟨⟨h1, h2, h3⟩, ⟨k6, k7, k8, k9, k10, k11⟩, h4, h5, h6, h7⟩ := h
  refine ⟨hw, rfl, k9, frT_c h5 (fun a ha => by rw [up_n ha, up_n ha]) (fun k hk => ?_), h6⟩
  show va_up (va_up (J 73) 12 (nI w)) 13 (J 73 9) k = _
  rw [up_n (by omega), up_n (by omega)]
theorem mf_ne {f s : Nat} (h : MF I0 L0 f s J M) : ¬ J 73 12 = nI 0 := by
  intro h0
  have := h.1
  rw [h.2.1, nI_eq (by omega) (by decide)] at h0
  omega
theorem lt64 {a c : Nat} (ha : a < 2147483648) (hc : c < 2147483648) : (nI a).toInt64 < (nI c).toInt64 ↔ a < c := by
  rw [Int64.lt_iff_toInt_lt, toInt64_toInt, toInt64_toInt, nI_toInt ha, nI_toInt hc]
  omega
theorem n_num {Q : Int32 → (Nat → Nat → Int32) → (Nat → Nat → Int64) → Prop} {lo hi : Nat} (h : MG I0 L0 b n t p J M) (hlo : lo ≤ 1000) (hhi : hi ≤ 1000) (hQ1 : ∀ K M' v q, pN b n lo hi p = .inr (v, q) → lo ≤ v → v ≤ hi → v = tV b n p → tK b n p = 2 → (∀ a, a ≠ 73 → K a = J a) → MG I0 L0 b n t q K M' → Q (nI v) K M') (hQ2 : ∀ K w s, pN b n lo hi p = .inl (w, s) → (∀ a, a ≠ 73 → K a = J a) → MF I0 L0 w s K M → Q (nI lo) K M) : C_X11_number_73 e (nI lo) (nI hi) J M Q := by
  have hG := h
  obtain ⟨⟨h1, h2, h3⟩, ⟨k6, k7, k8, k9, ⟨v, k10, k10', k10''⟩, k11⟩, h4, h5, h6, h7⟩ := h
  have hkl : tK b n p ≤ 4 := kAt_le _ _ _
  have hfr : ∀ w : Nat, ∀ a, a ≠ 73 → (va_up (va_up J 73 (va_up (J 73) 12 (nI w))) 73 (va_up (va_up (J 73) 12 (nI w)) 13 (J 73 9))) a = J a := fun w a ha => by rw [up_n ha, up_n ha]
  refine b_X11_number_73 ⟨fun _ => ?_, fun h0 => absurd h4 h0⟩
  rw [k8, k10']
  refine ⟨fun hk => ?_, fun hk => ⟨fun _ => ?_, fun h0 => absurd h4 h0⟩⟩
  · rw [nI_eq (by omega) (by decide)] at hk
    have hv := k10'' hk
    have hbad : ¬ (lo ≤ tV b n p ∧ tV b n p ≤ hi) → (((J 73 12) = nI 0 → Q (nI lo) (va_up (va_up J 73 (va_up (J 73) 12 (nI 2))) 73 (va_up (va_up (J 73) 12 (nI 2)) 13 (J 73 9))) M) ∧ (¬ (J 73 12) = nI 0 → Q (nI lo) J M)) := by
      intro hr
      refine ⟨fun _ => hQ2 _ 2 _ ?_ (hfr 2) (n_fail hG (by omega)), fun h0 => absurd h4 h0⟩
      unfold pN
      rw [if_pos hk, if_neg hr]
    refine ⟨fun h0 => hbad ?_, fun h0 => ⟨fun h8 => hbad ?_, fun h8 => ?_⟩⟩
    · rw [lt64 (by omega) (by omega)] at h0; omega
    · rw [lt64 (by omega) (by omega)] at h8; omega
    · rw [lt64 (by omega) (by omega)] at h0 h8
      have hvv : v = tV b n p := by omega
      refine n_next hG (fun K M' f g => hQ1 K M' v _ ?_ (by omega) (by omega) hvv hk f g)
      unfold pN
      rw [if_pos hk, if_pos (by omega), hvv]
  · rw [nI_eq (by omega) (by decide)] at hk
    refine hQ2 _ 1 _ ?_ (hfr 1) (n_fail hG (by omega))
    unfold pN
    rw [if_neg hk]
theorem nf_num {Q : Int32 → (Nat → Nat → Int32) → (Nat → Nat → Int64) → Prop} {f s : Nat} {v w : Int32} (h : MF I0 L0 f s J M) (hQ : Q v J M) : C_X11_number_73 e v w J M Q := b_X11_number_73 ⟨fun h0 => absurd h0 (mf_ne h), fun _ => hQ⟩
theorem n_takes {Q : Int32 → (Nat → Nat → Int32) → (Nat → Nat → Int64) → Prop} {j : Nat} (h : MG I0 L0 b n t p J M) (hj : j < 8) (hQ1 : ∀ K M', isW b n p j → (∀ a, a ≠ 73 → K a = J a) → MG I0 L0 b n t (tE b n p) K M' → Q (nI 1) K M') (hQ2 : ¬ isW b n p j → Q (nI 0) J M) : C_X11_takes_73 e (lN (wcn j)) J M Q := by
  have hkl : tK b n p ≤ 4 := kAt_le _ _ _
  refine b_X11_takes_73 ⟨fun _ => ?_, fun h0 => absurd h.2.2.1 h0⟩
  rw [h.2.1.2.2.1]
  refine ⟨fun hk => ?_, fun hk => hQ2 (fun hw => ?_)⟩
  · rw [nI_eq (by omega) (by decide)] at hk
    have hw := h.2.1.2.2.2.2.2 hk j hj
    exact ⟨fun h0 => n_next h (fun K M' f g => hQ1 K M' (hw.mp h0) f g), fun h0 => hQ2 (fun h1 => h0 (hw.mpr h1))⟩
  · rw [nI_eq (by omega) (by decide)] at hk
    exact hk hw.1
theorem nf_takes {Q : Int32 → (Nat → Nat → Int32) → (Nat → Nat → Int64) → Prop} {f s : Nat} {c : Int64} (h : MF I0 L0 f s J M) (hQ : Q (nI 0) J M) : C_X11_takes_73 e c J M Q := b_X11_takes_73 ⟨fun h0 => absurd h0 (mf_ne h), fun _ => hQ⟩
theorem n_asks {Q : (Nat → Nat → Int32) → (Nat → Nat → Int64) → Prop} {j : Nat} (h : MG I0 L0 b n t p J M) (hj : j < 8) (hQ1 : ∀ K M' q, pW b n j p = .inr q → (∀ a, a ≠ 73 → K a = J a) → MG I0 L0 b n t q K M' → Q K M') (hQ2 : ∀ K w s, pW b n j p = .inl (w, s) → (∀ a, a ≠ 73 → K a = J a) → MF I0 L0 w s K M → Q K M) : C_X11_asks_73 e (lN (wcn j)) J M Q := by
  refine b_X11_asks_73 (n_takes h hj (fun K M' hw f g => ⟨fun h0 => absurd h0 (by decide), fun _ => hQ1 K M' _ (pW_t hw) f g⟩) (fun hw => ⟨fun _ => ⟨fun _ => hQ2 _ 1 _ (pW_f hw) (fun a ha => by rw [up_n ha, up_n ha]) (n_fail h (by omega)), fun h0 => absurd h.2.2.1 h0⟩, fun h0 => absurd rfl h0⟩))
theorem nf_asks {Q : (Nat → Nat → Int32) → (Nat → Nat → Int64) → Prop} {f s : Nat} {c : Int64} (h : MF I0 L0 f s J M) (hQ : Q J M) : C_X11_asks_73 e c J M Q := b_X11_asks_73 (nf_takes h ⟨fun _ => ⟨fun h0 => absurd h0 (mf_ne h), fun _ => hQ⟩, fun h0 => absurd rfl h0⟩)
theorem n_numw {Q : Int32 → (Nat → Nat → Int32) → (Nat → Nat → Int64) → Prop} {j lo hi : Nat} (h : MG I0 L0 b n t p J M) (hj : j < 8) (hlo : lo ≤ 1000) (hhi : hi ≤ 1000) (hQ1 : ∀ K M' p1 v q, pW b n j p = .inr p1 → pN b n lo hi p1 = .inr (v, q) → lo ≤ v → v ≤ hi → (∀ a, a ≠ 73 → K a = J a) → MG I0 L0 b n t q K M' → Q (nI v) K M') (hQ2 : ∀ K w s, pW b n j p = .inl (w, s) → (∀ a, a ≠ 73 → K a = J a) → MF I0 L0 w s K M → Q (nI lo) K M) (hQ3 : ∀ K M' p1 w s, pW b n j p = .inr p1 → pN b n lo hi p1 = .inl (w, s) → (∀ a, a ≠ 73 → K a = J a) → MF I0 L0 w s K M' → Q (nI lo) K M') : C_X11_number__73 e (lN (wcn j)) (nI lo) (nI hi) J M Q := by
  refine b_X11_number__73 (n_asks h hj (fun K M1 p1 h1 f1 g1 => ?_) (fun K w s h1 f1 hF => nf_num hF (hQ2 K w s h1 f1 hF)))
  exact n_num g1 hlo hhi (fun K2 M2 v q h2 c1 c2 _ _ f2 g2 => hQ1 K2 M2 p1 v q h1 h2 c1 c2 (fun a ha => (f2 a ha).trans (f1 a ha)) g2) (fun K2 w s h2 f2 hF => hQ3 K2 M1 p1 w s h1 h2 (fun a ha => (f2 a ha).trans (f1 a ha)) hF)
theorem nf_numw {Q : Int32 → (Nat → Nat → Int32) → (Nat → Nat → Int64) → Prop} {f s : Nat} {c : Int64} {v w : Int32} (h : MF I0 L0 f s J M) (hQ : Q v J M) : C_X11_number__73 e c v w J M Q := b_X11_number__73 (nf_asks h (nf_num h hQ))
theorem n_cross {Q : Int32 → (Nat → Nat → Int32) → (Nat → Nat → Int64) → Prop} (h : MG I0 L0 b n t p J M) (hc : 1 ≤ t 0 0 ∧ t 0 0 ≤ 8) (hQ1 : ∀ K M' v q, pN b n 0 (t 0 0 - 1) p = .inr (v, q) → v ≤ t 0 0 - 1 → v = tV b n p → tK b n p = 2 → (∀ a, a ≠ 73 → K a = J a) → MG I0 L0 b n t q K M' → Q (nI v) K M') (hQ2 : ∀ K w s, pN b n 0 (t 0 0 - 1) p = .inl (w, s) → (∀ a, a ≠ 73 → K a = J a) → MF I0 L0 w s K M → Q (nI 0) K M) : C_X11_crossingHere_73 e J M Q := by
  refine b_X11_crossingHere_73 ?_
  have e1 : J 80 20 = nI (t 0 0) := h.2.2.2.2.2.2.1
  rw [e1, pk_sub hc.1]
  exact n_num h (by decide) (by omega) (fun K M' v q h1 _ c2 c3 c4 f g => hQ1 K M' v q h1 c2 c3 c4 f g) hQ2
theorem nf_cross {Q : Int32 → (Nat → Nat → Int32) → (Nat → Nat → Int64) → Prop} {f s : Nat} (h : MF I0 L0 f s J M) (hQ : Q (nI 0) J M) : C_X11_crossingHere_73 e J M Q := b_X11_crossingHere_73 (nf_num h hQ)
theorem MF_c {f s : Nat} {K : Nat → Nat → Int32} (h : MF I0 L0 f s J M) (hr : ∀ a, a ≠ 80 → a ≠ 84 → K a = J a) (h80 : ∀ i, (i < 20 ∨ 25 ≤ i) → K 80 i = J 80 i) (h84 : ∀ i, (i < 72 ∨ 90 ≤ i) → K 84 i = J 84 i) : MF I0 L0 f s K M := by
  obtain ⟨h1, h2, h3, ⟨a1, a2, a3, a4, a5, a6, a7, a8⟩, h5⟩ := h
  have e73 := hr 73 (by decide) (by decide)
  refine ⟨h1, by rw [e73]; exact h2, by rw [e73]; exact h3, ⟨fun a ha hb => (hr a (by omega) (by omega)).trans (a1 a ha hb), by rw [e73]; exact a2, by rw [hr 79 (by decide) (by decide)]; exact a3, fun i hi => (h80 i hi).trans (a4 i hi), by rw [hr 81 (by decide) (by decide)]; exact a5, by rw [hr 82 (by decide) (by decide)]; exact a6, by rw [hr 83 (by decide) (by decide)]; exact a7, fun i hi => (h84 i hi).trans (a8 i hi)⟩, h5⟩
/-- the value that stands here, against a small number -/
theorem val_eq {x v : Nat} (h : v = tV b n p ∨ (100000 ≤ v ∧ 100000 ≤ tV b n p)) (hx : x < 1000) : (v = x ↔ tV b n p = x) ∧ (v < x ↔ tV b n p < x) ∧ (x < v ↔ x < tV b n p) ∧ (x ≤ v ↔ x ≤ tV b n p) ∧ (v < 1000 → v = tV b n p) := by omega
theorem m_street {Q : (Nat → Nat → Int32) → (Nat → Nat → Int64) → Prop} {p0 : Nat} (hk : tok t) (hc : 1 ≤ t 0 0) (hG : MG I0 L0 b n t p J M) (hw : pW b n 4 p0 = .inr p) (hQ1 : ∀ K M' t' q, pStreet b n t p0 = .inr (t', q) → MG I0 L0 b n t' q K M' → Q K M') (hQ2 : ∀ K M' w s, pStreet b n t p0 = .inl (w, s) → MF I0 L0 w s K M' → Q K M') : C_X11_streetLine_73 e J M Q := by
  have hk2 := hk
  obtain ⟨o0, oT, oZ, oY, oD, o9, oN, o28, oB, oX, oE, oF, oA, oH, oU, oV⟩ := hk
  refine b_X11_streetLine_73 ?_
  refine n_cross hG ⟨hc, o0⟩ (fun K1 M1 x p2 h2 hi2 _ _ f1 g1 => ?_) (fun K w s hf f1 hF => ?_)
  rotate_left
  · have hq := hQ2 K M w s (by simp only [pStreet, bd_r, bd_l, hw, hf]) hF
    repeat' (first | exact hq | refine nf_cross hF ?_ | refine nf_num hF ?_ | refine nf_numw hF ?_ | refine b_X11_streetLine_73_p33 ?_ | refine b_X11_streetLine_73_p94 ?_ | refine b_X11_turnLine_73_p49 ?_ | refine b_X11_turnLine_73_p98 ?_ | refine ⟨fun h => absurd h (mf_ne hF), fun _ => ?_⟩)
  obtain ⟨k6, k7, k8, k9, ⟨v, v1, v2, v3⟩, k11⟩ := g1.2.1
  have hkl : tK b n p2 ≤ 4 := kAt_le _ _ _
  -- the second crossing, where it isn't the first
  have h33 : (tK b n p2 = 2 → tV b n p2 ≠ x) → T_X11_streetLine_73_p33 e (nI x) K1 M1 Q := by
    intro hne
    refine b_X11_streetLine_73_p33 ?_
    refine n_cross g1 ⟨hc, o0⟩ (fun K2 M2 y p4 h4 hi4 hy hk4 f2 g2 => ?_) (fun K w s hf f2 hF => ?_)
    rotate_left
    · have hq := hQ2 K M1 w s (by simp only [pStreet, bd_r, bd_l, hw, h2, hf]) hF
      repeat' (first | exact hq | refine nf_cross hF ?_ | refine nf_num hF ?_ | refine nf_numw hF ?_ | refine b_X11_streetLine_73_p33 ?_ | refine b_X11_streetLine_73_p94 ?_ | refine b_X11_turnLine_73_p49 ?_ | refine b_X11_turnLine_73_p98 ?_ | refine ⟨fun h => absurd h (mf_ne hF), fun _ => ?_⟩)
    have hxy : ¬ x = y := fun h => hne hk4 (by rw [← hy, h])
    obtain ⟨r6, r7, r8, r9, ⟨v', w1, w2, w3⟩, r11⟩ := g2.2.1
    have hkl4 : tK b n p4 ≤ 4 := kAt_le _ _ _
    have u1 := o9 (8 * x + y) (by omega)
    have e81 : K2 81 (256 + 8 * x + y) = nI (t 1 (8 * x + y)) := by
      have h81 := g2.2.2.2.2.2.2.2.2.2.2.2.1 (8 * x + y) (by omega)
      rw [← h81, show 64 * 4 + (8 * x + y) = 256 + 8 * x + y from by omega]
    -- the length
    have h94 : (tK b n p4 = 2 → 1 ≤ tV b n p4 → tV b n p4 ≤ 9 → ¬ (t 1 (8 * x + y) = 0 ∧ 14 ≤ (ar t).length / 2)) → T_X11_streetLine_73_p94 e (nI x) (nI y) K2 M2 Q := by
      intro hno
      refine b_X11_streetLine_73_p94 ?_
      refine n_num g2 (by decide) (by decide) (fun K3 M3 m p6 h6 lo6 hi6 hm hk6 f3 g3 => ?_) (fun K w s hf f3 hF => ?_)
      rotate_left
      · have hq := hQ2 K M2 w s (by simp only [pStreet, bd_r, bd_l, hw, h2, h4, hxy, if_false, hf]) hF
        repeat' (first | exact hq | refine nf_cross hF ?_ | refine nf_num hF ?_ | refine nf_numw hF ?_ | refine b_X11_streetLine_73_p33 ?_ | refine b_X11_streetLine_73_p94 ?_ | refine b_X11_turnLine_73_p49 ?_ | refine b_X11_turnLine_73_p98 ?_ | refine ⟨fun h => absurd h (mf_ne hF), fun _ => ?_⟩)
      have hno2 := hno hk6 (by omega) (by omega)
      refine ⟨fun _ => ?_, fun h0 => absurd g3.2.2.1 h0⟩
      obtain ⟨q1, q2, q3, q4, q5, a1, a2, a3, a4, a5, a6, a7, a8, a9, b1, b2, b3, b4, b5⟩ := g3
      refine c_layW (t := t) (w := 4) (by omega) hk2 (by omega) (by omega) hxy (by omega) a3 a4 a7 a8 a9 (fun K4 c1 c2 c3 c4 c5 c6 => ?_)
      have e73 := c1 73 (by decide) (by decide) (by decide)
      have e79 := c1 79 (by decide) (by decide) (by decide)
      have e80 := c1 80 (by decide) (by decide) (by decide)
      have e84 := c1 84 (by decide) (by decide) (by decide)
      have e85 := c1 85 (by decide) (by decide) (by decide)
      refine hQ1 K4 M3 (layT t x y m) p6 (by simp only [pStreet, bd_r, bd_l, hw, h2, h4, hxy, if_false, h6, hno2]) ⟨q1, ?_, by rw [e73]; exact q3, ?_, q5, ?_⟩
      · unfold MSt at q2 ⊢
        rw [e73]
        exact q2
      · obtain ⟨z1, z2, z3, z4, z5, z6, z7, z8⟩ := q4
        refine ⟨fun a ha hb => (c1 a (by omega) (by omega) (by omega)).trans (z1 a ha hb), by rw [e73]; exact z2, by rw [e79]; exact z3, by rw [e80]; exact z4, fun i hi => (c2 i (by omega)).trans (z5 i hi), fun i hi => (c3 i (by omega)).1.trans (z6 i hi), fun i hi => (c3 i (by omega)).2.trans (z7 i hi), by rw [e84]; exact z8⟩
      · exact ⟨by rw [e79]; exact a1, by rw [e80]; exact a2, by rw [e80]; exact a3, by rw [e80]; exact a4, by rw [e80]; exact a5, by rw [e80]; exact a6, c4, c5, c6, by rw [e84]; exact b1, by rw [e84]; exact b2, by rw [e84]; exact b3, by rw [e85]; exact b4, by rw [e85]; exact b5⟩
    refine ⟨fun _ => ?_, fun h0 => absurd g2.2.2.1 h0⟩
    rw [r8, w2]
    refine ⟨fun hkk => ?_, fun hkk => h94 (fun h => absurd (by rw [h]) hkk)⟩
    rw [nI_eq (by omega) (by decide)] at hkk
    have hv1 := val_eq (x := 1) (w3 hkk) (by decide)
    have hv9 := val_eq (x := 9) (w3 hkk) (by decide)
    refine ⟨fun h1 => h94 (fun _ h => ?_), fun h1 => ⟨fun h9 => h94 (fun _ _ h => ?_), fun h9 => ?_⟩⟩
    · rw [nI_ltI (by omega) (by decide)] at h1; omega
    · rw [nI_ltI (by decide) (by omega)] at h9; omega
    · rw [nI_ltI (by omega) (by decide)] at h1
      rw [nI_ltI (by decide) (by omega)] at h9
      have eix : (nI 256 + nI 8 * nI x) + nI y = nI (256 + 8 * x + y) := by rw [pk_mul, nI_add, nI_add]
      rw [eix, nI_clamp (by omega), e81]
      refine ⟨vp_in_nI (by omega) (by decide), fun h0 => ?_, fun h0 => h94 (fun _ _ _ h => ?_)⟩
      · rw [nI_leI (by omega) (by decide)] at h0
        have hlb : cn (arp t) 64 ≤ 64 := cn_n _ _
        refine c_streetsW (t := t) (w := 4) (by omega) g2.2.2.2.2.2.2.2.2.2.2.2.1 o9 ?_
        refine ⟨fun h14 => ⟨fun _ => ?_, fun h0 => absurd g2.2.2.1 h0⟩, fun h14 => h94 (fun _ _ _ h => ?_)⟩
        · rw [nI_eq (by omega) (by decide)] at h14
          have hF := n_fail g2 (w := 3) (by omega)
          have hcc : t 1 (8 * x + y) = 0 ∧ 14 ≤ (ar t).length / 2 := ⟨by omega, by rw [cn_fl]; omega⟩
          have hin : pN b n 1 9 p4 = .inr (tV b n p4, tE b n p4) := by
            unfold pN
            rw [if_pos hkk, if_pos (by omega)]
          have hq := hQ2 _ M2 3 _ (by simp only [pStreet, bd_r, bd_l, hw, h2, h4, hxy, if_false, hin, hcc, and_self, if_true]) hF
          repeat' (first | exact hq | refine nf_cross hF ?_ | refine nf_num hF ?_ | refine nf_numw hF ?_ | refine b_X11_streetLine_73_p33 ?_ | refine b_X11_streetLine_73_p94 ?_ | refine b_X11_turnLine_73_p49 ?_ | refine b_X11_turnLine_73_p98 ?_ | refine ⟨fun h => absurd h (mf_ne hF), fun _ => ?_⟩)
        · rw [nI_eq (by omega) (by decide)] at h14
          rw [cn_fl] at h o28
          omega
      · rw [nI_leI (by omega) (by decide)] at h0
        omega
  refine ⟨fun _ => ?_, fun h0 => absurd g1.2.2.1 h0⟩
  rw [k8, v2]
  refine ⟨fun hkk => ?_, fun hkk => h33 (fun h => absurd (by rw [h]) hkk)⟩
  rw [nI_eq (by omega) (by decide)] at hkk
  have hvx := val_eq (x := x) (v3 hkk) (by omega)
  refine ⟨fun he => ⟨fun _ => ?_, fun h0 => absurd g1.2.2.1 h0⟩, fun he => h33 (fun _ h => ?_)⟩
  · rw [nI_eq (by omega) (by omega)] at he
    have hF := n_fail g1 (w := 2) (by omega)
    have hin : pN b n 0 (t 0 0 - 1) p2 = .inr (x, tE b n p2) := by
      unfold pN
      rw [if_pos hkk, if_pos (by omega), hvx.1.mp he]
    have hq := hQ2 _ M1 2 _ (by simp only [pStreet, bd_r, bd_l, hw, h2, hin, if_true]) hF
    repeat' (first | exact hq | refine nf_cross hF ?_ | refine nf_num hF ?_ | refine nf_numw hF ?_ | refine b_X11_streetLine_73_p33 ?_ | refine b_X11_streetLine_73_p94 ?_ | refine b_X11_turnLine_73_p49 ?_ | refine b_X11_turnLine_73_p98 ?_ | refine ⟨fun h => absurd h (mf_ne hF), fun _ => ?_⟩)
  · rw [nI_eq (by omega) (by omega)] at he
    omega
theorem m_turn {Q : (Nat → Nat → Int32) → (Nat → Nat → Int64) → Prop} {p0 : Nat} (hk : tok t) (hc : 1 ≤ t 0 0) (hG : MG I0 L0 b n t p J M) (hw : pW b n 5 p0 = .inr p) (hQ1 : ∀ K M' t' q, pTurn b n t p0 = .inr (t', q) → MG I0 L0 b n t' q K M' → Q K M') (hQ2 : ∀ K M' w s, pTurn b n t p0 = .inl (w, s) → MF I0 L0 w s K M' → Q K M') : C_X11_turnLine_73 e J M Q := by
  have hk2 := hk
  obtain ⟨o0, oT, oZ, oY, oD, o9, oN, o28, oB, oX, oE, oF, oA, oH, oU, oV⟩ := hk
  refine b_X11_turnLine_73 ?_
  refine n_cross hG ⟨hc, o0⟩ (fun K1 M1 x p2 h2 hi2 _ _ f1 g1 => ?_) (fun K w s hf f1 hF => ?_)
  rotate_left
  · have hq := hQ2 K M w s (by simp only [pTurn, bd_r, bd_l, hw, hf]) hF
    repeat' (first | exact hq | refine nf_cross hF ?_ | refine nf_num hF ?_ | refine nf_numw hF ?_ | refine b_X11_streetLine_73_p33 ?_ | refine b_X11_streetLine_73_p94 ?_ | refine b_X11_turnLine_73_p49 ?_ | refine b_X11_turnLine_73_p98 ?_ | refine ⟨fun h => absurd h (mf_ne hF), fun _ => ?_⟩)
  obtain ⟨k6, k7, k8, k9, ⟨v, v1, v2, v3⟩, k11⟩ := g1.2.1
  have hkl : tK b n p2 ≤ 4 := kAt_le _ _ _
  have hS : ∀ {K M p}, MG I0 L0 b n t p K M → ∀ x y, x < 8 → y < 8 → K 81 (256 + 8 * x + y) = nI (t 1 (8 * x + y)) := fun g x y hx hy => by
    have h81 := g.2.2.2.2.2.2.2.2.2.2.2.1 (8 * x + y) (by omega)
    rw [← h81, show 64 * 4 + (8 * x + y) = 256 + 8 * x + y from by omega]
  have h49 : (tK b n p2 = 2 → tV b n p2 < t 0 0 → t 1 (8 * x + tV b n p2) ≠ 0) → T_X11_turnLine_73_p49 e (nI x) K1 M1 Q := by
    intro hne
    refine b_X11_turnLine_73_p49 ?_
    refine n_cross g1 ⟨hc, o0⟩ (fun K2 M2 y p4 h4 hi4 hy hk4 f2 g2 => ?_) (fun K w s hf f2 hF => ?_)
    rotate_left
    · have hq := hQ2 K M1 w s (by simp only [pTurn, bd_r, bd_l, hw, h2, hf]) hF
      repeat' (first | exact hq | refine nf_cross hF ?_ | refine nf_num hF ?_ | refine nf_numw hF ?_ | refine b_X11_streetLine_73_p33 ?_ | refine b_X11_streetLine_73_p94 ?_ | refine b_X11_turnLine_73_p49 ?_ | refine b_X11_turnLine_73_p98 ?_ | refine ⟨fun h => absurd h (mf_ne hF), fun _ => ?_⟩)
    have hs1 : ¬ t 1 (8 * x + y) = 0 := fun h => hne hk4 (by omega) (by rw [← hy]; exact h)
    obtain ⟨r6, r7, r8, r9, ⟨v', w1, w2, w3⟩, r11⟩ := g2.2.1
    have hkl4 : tK b n p4 ≤ 4 := kAt_le _ _ _
    have h98 : (tK b n p4 = 2 → tV b n p4 < t 0 0 → t 1 (8 * y + tV b n p4) ≠ 0) → T_X11_turnLine_73_p98 e (nI x) (nI y) K2 M2 Q := by
      intro hne2
      refine b_X11_turnLine_73_p98 ?_
      refine n_cross g2 ⟨hc, o0⟩ (fun K3 M3 z p6 h6 hi6 hz hk6 f3 g3 => ?_) (fun K w s hf f3 hF => ?_)
      rotate_left
      · have hq := hQ2 K M2 w s (by simp only [pTurn, bd_r, bd_l, hw, h2, h4, hs1, if_false, hf]) hF
        repeat' (first | exact hq | refine nf_cross hF ?_ | refine nf_num hF ?_ | refine nf_numw hF ?_ | refine b_X11_streetLine_73_p33 ?_ | refine b_X11_streetLine_73_p94 ?_ | refine b_X11_turnLine_73_p49 ?_ | refine b_X11_turnLine_73_p98 ?_ | refine ⟨fun h => absurd h (mf_ne hF), fun _ => ?_⟩)
      have hs2 : ¬ t 1 (8 * y + z) = 0 := fun h => hne2 hk6 (by omega) (by rw [← hz]; exact h)
      refine n_numw (j := 2) g3 (by decide) (by decide) (by decide) (fun K4 M4 p8 u p9 h8 h9 lo9 hi9 f4 g4 => ?_) (fun K w s hf f4 hF => ?_) (fun K M' p8 w s h8 hf f4 hF => ?_)
      rotate_left
      · have hq := hQ2 K M3 w s (by simp only [pTurn, bd_r, bd_l, hw, h2, h4, hs1, if_false, h6, hs2, hf]) hF
        repeat' (first | exact hq | refine nf_cross hF ?_ | refine nf_num hF ?_ | refine nf_numw hF ?_ | refine b_X11_streetLine_73_p33 ?_ | refine b_X11_streetLine_73_p94 ?_ | refine b_X11_turnLine_73_p49 ?_ | refine b_X11_turnLine_73_p98 ?_ | refine ⟨fun h => absurd h (mf_ne hF), fun _ => ?_⟩)
      · have hq := hQ2 K M' w s (by simp only [pTurn, bd_r, bd_l, hw, h2, h4, hs1, if_false, h6, hs2, h8, hf]) hF
        repeat' (first | exact hq | refine nf_cross hF ?_ | refine nf_num hF ?_ | refine nf_numw hF ?_ | refine b_X11_streetLine_73_p33 ?_ | refine b_X11_streetLine_73_p94 ?_ | refine b_X11_turnLine_73_p49 ?_ | refine b_X11_turnLine_73_p98 ?_ | refine ⟨fun h => absurd h (mf_ne hF), fun _ => ?_⟩)
      refine ⟨fun _ => ?_, fun h0 => absurd g4.2.2.1 h0⟩
      have eix : nI 2048 + ((nI 64 * nI x + nI 8 * nI y) + nI z) = nI (2048 + (64 * x + 8 * y + z)) := by rw [pk_mul, pk_mul, nI_add, nI_add, nI_add]
      rw [eix, nI_clamp (by omega)]
      refine ⟨vp_in_nI (by omega) (by decide), vp_in_nI (by omega) (by decide), hQ1 _ M4 (lwT t (64 * x + 8 * y + z) u) p9 (by simp only [pTurn, bd_r, bd_l, hw, h2, h4, hs1, if_false, h6, hs2, h8, h9]) ?_⟩
      obtain ⟨q1, q2, q3, ⟨z1, z2, z3, z4, z5, z6, z7, z8⟩, q5, a1, a2, a3, a4, a5, a6, a7, a8, a9, b1, b2, b3, b4, b5⟩ := g4
      refine ⟨q1, q2, q3, ⟨fun a ha hb => by rw [up_n (by omega), up_n (by omega)]; exact z1 a ha hb, z2, z3, z4, z5, fun i hi => ?_, fun i hi => ?_, z8⟩, q5, a1, a2, a3, a4, a5, a6, a7, fun k hk5 => ?_, fun k hk5 => ?_, b1, b2, b3, b4, b5⟩
      · show va_up (K4 82) _ _ i = _
        rw [up_n (by omega)]; exact z6 i hi
      · show va_up (K4 83) _ _ i = _
        rw [up_n (by omega)]; exact z7 i hi
      · show va_up (K4 82) _ _ (512 * 4 + k) = nI (va_up (t 2) _ u k)
        by_cases he : k = 64 * x + 8 * y + z
        · rw [he, up_s, up_s]
        · rw [up_n he, up_n (by omega)]; exact a8 k hk5
      · show va_up (K4 83) _ _ (512 * 4 + k) = nI (va_up (t 3) _ u k)
        by_cases he : k = 64 * x + 8 * y + z
        · rw [he, up_s, up_s]
        · rw [up_n he, up_n (by omega)]; exact a9 k hk5
    refine ⟨fun _ => ?_, fun h0 => absurd g2.2.2.1 h0⟩
    have e20 : K2 80 20 = nI (t 0 0) := g2.2.2.2.2.2.2.1
    rw [r8, w2, e20]
    refine ⟨fun hkk => ?_, fun hkk => h98 (fun h => absurd (by rw [h]) hkk)⟩
    rw [nI_eq (by omega) (by decide)] at hkk
    have hvc := val_eq (x := t 0 0) (w3 hkk) (by omega)
    refine ⟨fun hcv => h98 (fun _ h => ?_), fun hcv => ?_⟩
    · rw [nI_leI (by omega) (by omega)] at hcv; omega
    · rw [nI_leI (by omega) (by omega)] at hcv
      have hvv : v' = tV b n p4 := hvc.2.2.2.2 (by omega)
      have eix : (nI 256 + nI 8 * nI y) + nI v' = nI (256 + 8 * y + v') := by rw [pk_mul, nI_add, nI_add]
      have u2 := o9 (8 * y + v') (by omega)
      rw [eix, nI_clamp (by omega), hS g2 y v' (by omega) (by omega)]
      refine ⟨vp_in_nI (by omega) (by decide), fun h0 => ⟨fun _ => ?_, fun h0 => absurd g2.2.2.1 h0⟩, fun h0 => h98 (fun _ _ h => ?_)⟩
      · rw [nI_leI (by omega) (by decide)] at h0
        have hF := n_fail g2 (w := 2) (by omega)
        have hin : pN b n 0 (t 0 0 - 1) p4 = .inr (v', tE b n p4) := by
          unfold pN
          rw [if_pos hkk, if_pos (by omega), hvv]
        have hz0 : t 1 (8 * y + v') = 0 := by omega
        have hq := hQ2 _ M2 2 _ (by simp only [pTurn, bd_r, bd_l, hw, h2, h4, hs1, if_false, hin, hz0, if_true]) hF
        repeat' (first | exact hq | refine nf_cross hF ?_ | refine nf_num hF ?_ | refine nf_numw hF ?_ | refine b_X11_streetLine_73_p33 ?_ | refine b_X11_streetLine_73_p94 ?_ | refine b_X11_turnLine_73_p49 ?_ | refine b_X11_turnLine_73_p98 ?_ | refine ⟨fun h => absurd h (mf_ne hF), fun _ => ?_⟩)
      · rw [nI_leI (by omega) (by decide)] at h0
        rw [← hvv] at h
        omega
  refine ⟨fun _ => ?_, fun h0 => absurd g1.2.2.1 h0⟩
  have e20 : K1 80 20 = nI (t 0 0) := g1.2.2.2.2.2.2.1
  rw [k8, v2, e20]
  refine ⟨fun hkk => ?_, fun hkk => h49 (fun h => absurd (by rw [h]) hkk)⟩
  rw [nI_eq (by omega) (by decide)] at hkk
  have hvc := val_eq (x := t 0 0) (v3 hkk) (by omega)
  refine ⟨fun hcv => h49 (fun _ h => ?_), fun hcv => ?_⟩
  · rw [nI_leI (by omega) (by omega)] at hcv; omega
  · rw [nI_leI (by omega) (by omega)] at hcv
    have hvv : v = tV b n p2 := hvc.2.2.2.2 (by omega)
    have eix : (nI 256 + nI 8 * nI x) + nI v = nI (256 + 8 * x + v) := by rw [pk_mul, nI_add, nI_add]
    have u2 := o9 (8 * x + v) (by omega)
    rw [eix, nI_clamp (by omega), hS g1 x v (by omega) (by omega)]
    refine ⟨vp_in_nI (by omega) (by decide), fun h0 => ⟨fun _ => ?_, fun h0 => absurd g1.2.2.1 h0⟩, fun h0 => h49 (fun _ _ h => ?_)⟩
    · rw [nI_leI (by omega) (by decide)] at h0
      have hF := n_fail g1 (w := 2) (by omega)
      have hin : pN b n 0 (t 0 0 - 1) p2 = .inr (v, tE b n p2) := by
        unfold pN
        rw [if_pos hkk, if_pos (by omega), hvv]
      have hz0 : t 1 (8 * x + v) = 0 := by omega
      have hq := hQ2 _ M1 2 _ (by simp only [pTurn, bd_r, bd_l, hw, h2, hin, hz0, if_true]) hF
      repeat' (first | exact hq | refine nf_cross hF ?_ | refine nf_num hF ?_ | refine nf_numw hF ?_ | refine b_X11_streetLine_73_p33 ?_ | refine b_X11_streetLine_73_p94 ?_ | refine b_X11_turnLine_73_p49 ?_ | refine b_X11_turnLine_73_p98 ?_ | refine ⟨fun h => absurd h (mf_ne hF), fun _ => ?_⟩)
    · rw [nI_leI (by omega) (by decide)] at h0
      rw [← hvv] at h
      omega
end RM
