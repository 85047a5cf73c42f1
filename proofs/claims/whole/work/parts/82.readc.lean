/-! a town told: what comes of a line; the class reads a town -/
theorem bd_i {α β : Type} {r : (Nat × Nat) ⊕ α} {f : α → (Nat × Nat) ⊕ β} {x : β} (h : bd r f = .inr x) : ∃ a, r = .inr a ∧ f a = .inr x := by
  cases r with
  | inl e => cases h
  | inr a => exact ⟨a, rfl, h⟩
theorem pW_i {b : Nat → Int32} {n j p q : Nat} (h : pW b n j p = .inr q) : isW b n p j ∧ q = tE b n p := by
  by_cases hw : isW b n p j
  · rw [pW_t hw] at h
    exact ⟨hw, (Sum.inr.inj h).symm⟩
  · rw [pW_f hw] at h
    cases h
theorem pN_i {b : Nat → Int32} {n lo hi p : Nat} {v : Nat × Nat} (h : pN b n lo hi p = .inr v) : tK b n p = 2 ∧ lo ≤ v.1 ∧ v.1 ≤ hi ∧ v.2 = tE b n p := by
  unfold pN at h
  split at h
  · rename_i h1
    split at h
    · rename_i h2
      have h3 := Sum.inr.inj h
      rw [← h3]
      exact ⟨h1, h2.1, h2.2, rfl⟩
    · cases h
  · cases h
theorem tE_up {b : Nat → Int32} {n p : Nat} (h : p ≤ n) : p ≤ tE b n p ∧ tE b n p ≤ n := by
  have h1 := tS_b (b := b) h
  have h2 := tE_b (b := b) h
  omega
theorem pTown_i {b : Nat → Int32} {n p : Nat} {t t' : tw} {q : Nat} (hp : p ≤ n) (h : pTown b n t p = .inr (t', q)) : (tK b n p ≠ 0 ∧ tE b n p ≤ q ∧ q ≤ n) ∧ ∃ c u w, 2 ≤ c ∧ c ≤ 8 ∧ u ≤ 3 ∧ w ≤ 3 ∧ t' = twT t c u w := by
  unfold pTown at h
  obtain ⟨p1, h1, h⟩ := bd_i h
  obtain ⟨p2, h2, h⟩ := bd_i h
  obtain ⟨c, h3, h⟩ := bd_i h
  obtain ⟨p4, h4, h⟩ := bd_i h
  obtain ⟨u, h5, h⟩ := bd_i h
  obtain ⟨p6, h6, h⟩ := bd_i h
  obtain ⟨w, h7, h⟩ := bd_i h
  have a1 := pW_i h1
  have a2 := pW_i h2
  have a3 := pN_i h3
  have a4 := pW_i h4
  have a5 := pN_i h5
  have a6 := pW_i h6
  have a7 := pN_i h7
  have b1 := tE_up (b := b) hp
  have b2 := tE_up (b := b) (n := n) (p := p1) (by omega)
  have b3 := tE_up (b := b) (n := n) (p := p2) (by omega)
  have b4 := tE_up (b := b) (n := n) (p := c.2) (by omega)
  have b5 := tE_up (b := b) (n := n) (p := p4) (by omega)
  have b6 := tE_up (b := b) (n := n) (p := u.2) (by omega)
  have b7 := tE_up (b := b) (n := n) (p := p6) (by omega)
  have he := Sum.inr.inj h
  have e1 := congrArg Prod.fst he
  have e2 := congrArg Prod.snd he
  dsimp only at e1 e2
  exact ⟨⟨by rw [a1.1.1]; decide, by omega, by omega⟩, c.1, u.1, w.1, a3.2.1, a3.2.2.1, a5.2.2.1, a7.2.2.1, e1.symm⟩
theorem pStreet_i {b : Nat → Int32} {n p : Nat} {t t' : tw} {q : Nat} (hp : p ≤ n) (h : pStreet b n t p = .inr (t', q)) : (tK b n p ≠ 0 ∧ tE b n p ≤ q ∧ q ≤ n) ∧ ∃ x y w, x ≤ t 0 0 - 1 ∧ y ≤ t 0 0 - 1 ∧ x ≠ y ∧ 1 ≤ w ∧ w ≤ 9 ∧ ¬ (t 1 (8 * x + y) = 0 ∧ 14 ≤ (ar t).length / 2) ∧ t' = layT t x y w := by
  unfold pStreet at h
  obtain ⟨p1, h1, h⟩ := bd_i h
  obtain ⟨x, h2, h⟩ := bd_i h
  obtain ⟨y, h3, h⟩ := bd_i h
  split at h
  · cases h
  · rename_i hxy
    obtain ⟨w, h4, h⟩ := bd_i h
    split at h
    · cases h
    · rename_i hno
      have a1 := pW_i h1
      have a2 := pN_i h2
      have a3 := pN_i h3
      have a4 := pN_i h4
      have b1 := tE_up (b := b) hp
      have b2 := tE_up (b := b) (n := n) (p := p1) (by omega)
      have b3 := tE_up (b := b) (n := n) (p := x.2) (by omega)
      have b4 := tE_up (b := b) (n := n) (p := y.2) (by omega)
      have he := Sum.inr.inj h
      have e1 := congrArg Prod.fst he
      have e2 := congrArg Prod.snd he
      dsimp only at e1 e2
      exact ⟨⟨by rw [a1.1.1]; decide, by omega, by omega⟩, x.1, y.1, w.1, a2.2.2.1, a3.2.2.1, hxy, a4.2.1, a4.2.2.1, hno, e1.symm⟩
theorem pTurn_i {b : Nat → Int32} {n p : Nat} {t t' : tw} {q : Nat} (hp : p ≤ n) (h : pTurn b n t p = .inr (t', q)) : (tK b n p ≠ 0 ∧ tE b n p ≤ q ∧ q ≤ n) ∧ ∃ x y z u, x ≤ t 0 0 - 1 ∧ y ≤ t 0 0 - 1 ∧ z ≤ t 0 0 - 1 ∧ t 1 (8 * x + y) ≠ 0 ∧ t 1 (8 * y + z) ≠ 0 ∧ u ≤ 9 ∧ t' = lwT t (64 * x + 8 * y + z) u := by
  unfold pTurn at h
  obtain ⟨p1, h1, h⟩ := bd_i h
  obtain ⟨x, h2, h⟩ := bd_i h
  obtain ⟨y, h3, h⟩ := bd_i h
  split at h
  · cases h
  · rename_i hs1
    obtain ⟨z, h4, h⟩ := bd_i h
    split at h
    · cases h
    · rename_i hs2
      obtain ⟨p4, h5, h⟩ := bd_i h
      obtain ⟨u, h6, h⟩ := bd_i h
      have a1 := pW_i h1
      have a2 := pN_i h2
      have a3 := pN_i h3
      have a4 := pN_i h4
      have a5 := pW_i h5
      have a6 := pN_i h6
      have b1 := tE_up (b := b) hp
      have b2 := tE_up (b := b) (n := n) (p := p1) (by omega)
      have b3 := tE_up (b := b) (n := n) (p := x.2) (by omega)
      have b4 := tE_up (b := b) (n := n) (p := y.2) (by omega)
      have b5 := tE_up (b := b) (n := n) (p := z.2) (by omega)
      have b6 := tE_up (b := b) (n := n) (p := p4) (by omega)
      have he := Sum.inr.inj h
      have e1 := congrArg Prod.fst he
      have e2 := congrArg Prod.snd he
      dsimp only at e1 e2
      exact ⟨⟨by rw [a1.1.1]; decide, by omega, by omega⟩, x.1, y.1, z.1, u.1, a2.2.2.1, a3.2.2.1, a4.2.2.1, hs1, hs2, a6.2.2.1, e1.symm⟩
theorem pErrand_i {b : Nat → Int32} {n p : Nat} {t t' : tw} {q : Nat} (hp : p ≤ n) (h : pErrand b n t p = .inr (t', q)) : (tK b n p ≠ 0 ∧ tE b n p ≤ q ∧ q ≤ n) ∧ ∃ x y u, x ≤ t 0 0 - 1 ∧ y ≤ t 0 0 - 1 ∧ x ≠ y ∧ u ≤ 23 ∧ t 0 4 < 6 ∧ t' = edT t x y u := by
  unfold pErrand at h
  split at h
  · cases h
  · rename_i h6'
    obtain ⟨p1, h1, h⟩ := bd_i h
    obtain ⟨x, h2, h⟩ := bd_i h
    obtain ⟨y, h3, h⟩ := bd_i h
    split at h
    · cases h
    · rename_i hxy
      obtain ⟨p4, h5, h⟩ := bd_i h
      obtain ⟨u, h6, h⟩ := bd_i h
      have a1 := pW_i h1
      have a2 := pN_i h2
      have a3 := pN_i h3
      have a5 := pW_i h5
      have a6 := pN_i h6
      have b1 := tE_up (b := b) hp
      have b2 := tE_up (b := b) (n := n) (p := p1) (by omega)
      have b3 := tE_up (b := b) (n := n) (p := x.2) (by omega)
      have b5 := tE_up (b := b) (n := n) (p := y.2) (by omega)
      have b6 := tE_up (b := b) (n := n) (p := p4) (by omega)
      have he := Sum.inr.inj h
      have e1 := congrArg Prod.fst he
      have e2 := congrArg Prod.snd he
      dsimp only at e1 e2
      exact ⟨⟨by rw [a1.1.1]; decide, by omega, by omega⟩, x.1, y.1, u.1, a2.2.2.1, a3.2.2.1, hxy, a6.2.2.1, by omega, e1.symm⟩
theorem tok_ln {t : tw} (hk : tok t) (h0 : t 0 3 ≠ 0) (h5 : t 0 3 + 1 ≤ 5000) : tok (lnT t) := by
  obtain ⟨o0, oT, oZ, oY, oD, o9, oN, o28, oB, oX, oE, oF, oA, oH, oU, oV⟩ := hk
  refine ⟨o0, ?_, h5, oY, oD, o9, oN, o28, oB, oX, oE, oF, oA, hst_c (t := t) (t' := lnT t) rfl (fun _ _ => ⟨rfl, rfl⟩) oH, oU, oV⟩
  show t 0 3 + 1 = 0 ↔ t 0 0 = 0
  constructor
  · intro h; omega
  · intro h; exact absurd (oT.mpr h) h0
theorem tok_tw {t : tw} {c u w : Nat} (hk : tok t) (h0 : t 0 3 = 0) (ha : t 0 5 = 0) (hc : 2 ≤ c ∧ c ≤ 8) (hu : u ≤ 3) (hw : w ≤ 3) : tok (lnT (twT t c u w)) := by
  obtain ⟨o0, oT, oZ, oY, oD, o9, oN, o28, oB, oX, oE, oF, oA, oH, oU, oV⟩ := hk
  have h00 := oT.mp h0
  refine ⟨hc.2, ?_, ?_, oY, oD, o9, fun x hx y hy h => ?_, o28, oB, oX, oE, fun j hj => ?_, oA, ?_, hu, hw⟩
  · show t 0 3 + 1 = 0 ↔ c = 0
    constructor <;> intro h <;> omega
  · show t 0 3 + 1 ≤ 5000
    omega
  · have := oN x hx y hy h
    omega
  · have := oF j hj
    omega
  · show hst _ (t 0 5) _
    rw [ha]
    trivial
theorem tok_ed {t : tw} {x y u : Nat} (hk : tok t) (h4 : t 0 4 < 6) (hx : x < t 0 0) (hy : y < t 0 0) (hxy : x ≠ y) (hu : u < 24) : tok (edT t x y u) := by
  obtain ⟨o0, oT, oZ, oY, oD, o9, oN, o28, oB, oX, oE, oF, oA, oH, oU, oV⟩ := hk
  refine ⟨o0, oT, oZ, oY, oD, o9, oN, o28, oB, oX, ?_, fun j hj => ?_, oA, ?_, oU, oV⟩
  · show t 0 4 + 1 ≤ 6
    omega
  · have hj' : j < t 0 4 + 1 := hj
    show va_up (t 4) (t 0 4) x j < t 0 0 ∧ va_up (t 5) (t 0 4) y j < t 0 0 ∧ va_up (t 4) (t 0 4) x j ≠ va_up (t 5) (t 0 4) y j ∧ va_up (t 6) (t 0 4) u j < 24
    by_cases he : j = t 0 4
    · rw [he, up_s, up_s, up_s]
      exact ⟨hx, hy, hxy, hu⟩
    · rw [up_n he, up_n he, up_n he]
      exact oF j (by omega)
  · exact hst_c (t := t) (t' := edT t x y u) rfl (fun _ _ => ⟨rfl, rfl⟩) oH
/-- a line that is good gives a town that can be, and goes on -/
theorem pBody_i {b : Nat → Int32} {n p : Nat} {t t' : tw} {q : Nat} (hk : tok t) (ha : t 0 5 = 0) (h5 : t 0 3 + 1 ≤ 5000) (hp : p ≤ n) (h : pBody b n t p = .inr (t', q)) : (tK b n p ≠ 0 ∧ tE b n p ≤ q ∧ q ≤ n) ∧ tok (lnT t') ∧ t' 0 5 = 0 ∧ t' 0 3 = t 0 3 ∧ (∀ k, k < 64 → t' 1 k ≤ 9) := by
  unfold pBody at h
  have hk2 := hk
  obtain ⟨o0, oT, oZ, oY, oD, o9, oN, o28, oB, oX, oE, oF, oA, oH, oU, oV⟩ := hk2
  have hc0 : t 0 3 ≠ 0 → 1 ≤ t 0 0 := fun h3 => by
    rcases Nat.eq_zero_or_pos (t 0 0) with h4 | h4
    · exact absurd (oT.mpr h4) h3
    · exact h4
  split at h
  · rename_i h0
    obtain ⟨h1, c, u, w, c1, c2, c3, c4, rfl⟩ := pTown_i hp h
    exact ⟨h1, tok_tw hk h0 ha ⟨c1, c2⟩ c3 c4, ha, rfl, o9⟩
  · rename_i h0
    have hc := hc0 h0
    split at h
    · cases h
    · split at h
      · obtain ⟨h1, x, y, w, c1, c2, c3, c4, c5, c6, rfl⟩ := pStreet_i hp h
        have ht := tok_lay (n := w) hk (show x < t 0 0 from by omega) (show y < t 0 0 from by omega) c3 c5 ha (fun hz _ => by
          rcases Nat.lt_or_ge ((ar t).length / 2) 14 with h8 | h8
          · exact h8
          · exact absurd ⟨hz, h8⟩ c6)
        exact ⟨h1, tok_ln ht h0 h5, ha, rfl, laS_9 o9 c5⟩
      · split at h
        · obtain ⟨h1, x, y, z, u, c1, c2, c3, c4, c5, c6, rfl⟩ := pTurn_i hp h
          have ht := tok_lw (v := u) hk (show 64 * x + 8 * y + z < 512 from by omega) (tB_x (by omega) (by omega) (by omega) (by omega) (by omega)) ha c6
          exact ⟨h1, tok_ln ht h0 h5, ha, rfl, o9⟩
        · split at h
          · obtain ⟨h1, x, y, u, c1, c2, c3, c4, c5, rfl⟩ := pErrand_i hp h
            have ht := tok_ed (u := u) hk c5 (show x < t 0 0 from by omega) (show y < t 0 0 from by omega) c3 (by omega)
            exact ⟨h1, tok_ln ht h0 h5, ha, rfl, o9⟩
          · cases h
theorem pLine_i {b : Nat → Int32} {n p : Nat} {t t' : tw} {q : Nat} (hk : tok t) (ha : t 0 5 = 0) (h5 : t 0 3 + 1 ≤ 5000) (hp : p ≤ n) (h : pLine b n t p = .inr (t', q)) : (tS b n p < q ∧ q ≤ n) ∧ tok t' ∧ t' 0 5 = 0 ∧ t' 0 3 = t 0 3 + 1 := by
  unfold pLine at h
  obtain ⟨a, h1, h⟩ := bd_i h
  obtain ⟨t1, q1⟩ := a
  have h2 := pBody_i hk ha h5 hp h1
  dsimp only at h
  split at h
  · have he := Sum.inr.inj h
    have e1 := congrArg Prod.fst he
    have e2 := congrArg Prod.snd he
    dsimp only at e1 e2
    have h3 := tE_b (b := b) hp
    have h4 := tE_up (b := b) h2.1.2.2
    have h6 := h3.2.2 h2.1.1
    rw [← e1]
    exact ⟨by omega, h2.2.1, h2.2.2.1, by show t1 0 3 + 1 = _; rw [h2.2.2.2.1]⟩
  · cases h
section RE
variable {e : am_V} {I0 J : Nat → Nat → Int32} {L : Nat → Nat → Int64} {b : Nat → Int32} {n p : Nat} {t : tw}
theorem g_blame {w : Nat} (h : CGd I0 b n t p J) (hw : 0 < w ∧ w ≤ 3) : CFd I0 b n t p w (tS b n p) (va_up (va_up J 37 (va_up (J 37) 6 (nI w))) 37 (va_up (va_up (J 37) 6 (nI w)) 7 (J 37 4))) := by
  obtain ⟨h1, ⟨k2, k3, k4, k5, k6, k7⟩, h4, h5⟩ := h
  exact ⟨h1, hw, ⟨k2, k3, k4, k5, rfl, by rw [if_neg (by omega)]; exact k4⟩, fun a ha h37 => by rw [up_n h37, up_n h37]; exact h4 a ha h37, h5.2.2.2.2.2.2.2.1⟩
theorem c_readLine {Q : (Nat → Nat → Int32) → Prop} (hk : tok t) (ha : t 0 5 = 0) (h5 : t 0 3 + 1 ≤ 5000) (hG : CGd I0 b n t p J) (hQ1 : ∀ K t' q, pLine b n t p = .inr (t', q) → CGd I0 b n t' q K → Q K) (hQ2 : ∀ K w s q t', pLine b n t p = .inl (w, s) → (∀ k, k < 64 → t' 1 k ≤ 9) → CFd I0 b n t' q w s K → Q K) : C_X4_readLine_37 e J L Q := by
  have hk2 := hk
  obtain ⟨o0, oT, oZ, oY, oD, o9, oN, o28, oB, oX, oE, oF, oA, oH, oU, oV⟩ := hk2
  have hp := hG.1.2.2
  -- behind a line's body
  have hgood : ∀ K t1 q1, pBody b n t p = .inr (t1, q1) → CGd I0 b n t1 q1 K → (((K 37 3) = nI 3 → C_X4_check_37 e (nI 1) (nI 1) K L (fun I8 => C_X4_advance_37 e I8 L (fun I11 => Q (va_up I11 15 (va_up (I11 15) 3 ((I11 15 3) + nI 1)))))) ∧ (¬ (K 37 3) = nI 3 → C_X4_check_37 e (nI 0) (nI 1) K L (fun I14 => C_X4_advance_37 e I14 L (fun I17 => Q (va_up I17 15 (va_up (I17 15) 3 ((I17 15 3) + nI 1))))))) := by
    intro K t1 q1 h1 g
    have hi := pBody_i hk ha h5 hp h1
    have hkl : tK b n q1 ≤ 4 := kAt_le _ _ _
    rw [g.2.1.2.1]
    refine ⟨fun h3 => ?_, fun h3 => ?_⟩
    · rw [nI_eq (by omega) (by decide)] at h3
      refine g_chk1 (g_adv g (fun K2 g2 => ?_))
      refine hQ1 _ (lnT t1) (tE b n q1) (by simp only [pLine, h1, bd_r, h3, if_true]) ?_
      obtain ⟨f1, f2, f3, n0, n1, n2, n3, n4, n7, n8, nS, nM, nR, nF, nO, nH, nL⟩ := g2
      exact ⟨f1, f2, fun a ha h37 => by rw [up_n (by omega)]; exact f3 a ha h37, n0, n1, n2, by show K2 15 3 + nI 1 = nI (t1 0 3 + 1); rw [n3, nI_add], n4, n7, n8, nS, nM, nR, nF, nO, nH, nL⟩
    · rw [nI_eq (by omega) (by decide)] at h3
      refine g_chk0 g (by omega) (fun K2 hF => f_adv hF ?_)
      exact hQ2 _ 1 _ q1 t1 (by simp only [pLine, h1, bd_r, h3, if_false]) hi.2.2.2.2 (CF_15 hF (fun a ha => up_n ha))
  have hbad : ∀ K w s q, pBody b n t p = .inl (w, s) → CFd I0 b n t q w s K → (((K 37 3) = nI 3 → C_X4_check_37 e (nI 1) (nI 1) K L (fun I8 => C_X4_advance_37 e I8 L (fun I11 => Q (va_up I11 15 (va_up (I11 15) 3 ((I11 15 3) + nI 1)))))) ∧ (¬ (K 37 3) = nI 3 → C_X4_check_37 e (nI 0) (nI 1) K L (fun I14 => C_X4_advance_37 e I14 L (fun I17 => Q (va_up I17 15 (va_up (I17 15) 3 ((I17 15 3) + nI 1))))))) := by
    intro K w s q h1 hF
    have hq : Q (va_up K 15 (va_up (K 15) 3 ((K 15 3) + nI 1))) := hQ2 _ w s q t (by simp only [pLine, h1, bd_l]) o9 (CF_15 hF (fun a ha => up_n ha))
    exact ⟨fun _ => f_chk hF (f_adv hF hq), fun _ => f_chk hF (f_adv hF hq)⟩
  have h6 := hG.2.1.2.2.2.2.1
  have e3 : J 15 3 = nI (t 0 3) := hG.2.2.2.2.2.2.1
  refine b_X4_readLine_37 ?_
  rw [e3]
  refine ⟨fun h0 => ?_, fun h0 => ?_⟩
  · rw [nI_eq (by omega) (by decide)] at h0
    refine g_is0 hG (fun hw => ⟨fun _ => ?_, fun h => absurd rfl h⟩) (fun hw => ⟨fun h => absurd h (by decide), fun _ => ⟨fun _ => ?_, fun h => absurd h6 h⟩⟩)
    · exact c_readTown hk hG (fun K t' q h g => hgood K t' q (by unfold pBody; rw [if_pos h0]; exact h) g) (fun K w s q h hF => hbad K w s q (by unfold pBody; rw [if_pos h0]; exact h) hF)
    · exact hbad _ 1 _ p (by unfold pBody; rw [if_pos h0]; simp only [pTown, pW_f hw, bd_l]) (g_blame hG (by omega))
  · rw [nI_eq (by omega) (by decide)] at h0
    have hc : 1 ≤ t 0 0 := by
      rcases Nat.eq_zero_or_pos (t 0 0) with h4 | h4
      · exact absurd (oT.mpr h4) h0
      · exact h4
    refine g_is0 hG (fun hw0 => ⟨fun h => absurd h (by decide), fun _ => ⟨fun _ => ?_, fun h => absurd h6 h⟩⟩) (fun hw0 => ⟨fun _ => ?_, fun h => absurd rfl h⟩)
    · exact hbad _ 1 _ p (by unfold pBody; rw [if_neg h0, if_pos hw0]) (g_blame hG (by omega))
    · refine g_is4 hG (fun hw4 => ⟨fun h => absurd h (by decide), fun _ => ?_⟩) (fun hw4 => ⟨fun _ => ?_, fun h => absurd rfl h⟩)
      · exact c_readStreet hk hG hc (fun K t' q h g => hgood K t' q (by unfold pBody; rw [if_neg h0, if_neg hw0, if_pos hw4]; exact h) g) (fun K w s q h hF => hbad K w s q (by unfold pBody; rw [if_neg h0, if_neg hw0, if_pos hw4]; exact h) hF)
      · refine g_is5 hG (fun hw5 => ⟨fun h => absurd h (by decide), fun _ => ?_⟩) (fun hw5 => ⟨fun _ => ?_, fun h => absurd rfl h⟩)
        · exact c_readTurn hk hG hc (fun K t' q h g => hgood K t' q (by unfold pBody; rw [if_neg h0, if_neg hw0, if_neg hw4, if_pos hw5]; exact h) g) (fun K w s q h hF => hbad K w s q (by unfold pBody; rw [if_neg h0, if_neg hw0, if_neg hw4, if_pos hw5]; exact h) hF)
        · refine g_is6 hG (fun hw6 => ⟨fun h => absurd h (by decide), fun _ => ?_⟩) (fun hw6 => ⟨fun _ => ⟨fun _ => ?_, fun h => absurd h6 h⟩, fun h => absurd rfl h⟩)
          · exact c_readErrand hk hG hc (fun K t' q h g => hgood K t' q (by unfold pBody; rw [if_neg h0, if_neg hw0, if_neg hw4, if_neg hw5, if_pos hw6]; exact h) g) (fun K w s q h hF => hbad K w s q (by unfold pBody; rw [if_neg h0, if_neg hw0, if_neg hw4, if_neg hw5, if_pos hw6]; exact h) hF)
          · exact hbad _ 1 _ p (by unfold pBody; rw [if_neg h0, if_neg hw0, if_neg hw4, if_neg hw5, if_neg hw6]) (g_blame hG (by omega))
end RE
/-- no town -/
def t0z : tw := fun _ _ => 0
theorem tok_0 : tok t0z := by
  refine ⟨by decide, by decide, by decide, fun _ _ _ _ => rfl, fun _ _ => rfl, fun _ _ => Nat.zero_le _, fun x _ y _ h => absurd h (Nat.lt_irrefl 0), by decide, fun _ _ => ⟨Nat.zero_le _, Nat.zero_le _⟩, fun _ _ _ => rfl, by decide, fun j h => absurd h (Nat.not_lt_zero _), by decide, trivial, by decide, by decide⟩
theorem c_read {e : am_V} {I : Nat → Nat → Int32} {L : Nat → Nat → Int64} {Q : (Nat → Nat → Int32) → Prop} {b : Nat → Int32} {n : Nat} (hb : I 1 = b) (hn : n ≤ 1600) (hI2 : I 37 2 = nI n) (hQ1 : ∀ K t, pAll b n (n + 1) t0z 0 = .inr t → tok t → t 0 5 = 0 → (∀ a, (a < 15 ∨ 26 < a) → a ≠ 37 → K a = I a) → K 37 2 = nI 0 → K 37 6 = nI 0 → K 37 7 = (-1 : Int32) → NLb 15 t K → Q K) (hQ2 : ∀ K w s, pAll b n (n + 1) t0z 0 = .inl (w, s) → 0 < w → w ≤ 3 → (∀ a, (a < 15 ∨ 26 < a) → a ≠ 37 → K a = I a) → K 37 2 = nI 0 → K 37 6 = nI w → K 37 7 = nI s → Q K) : C_X4_read_37 e I L Q := by
  have hend1 : ∀ K t p, pAll b n (n + 1) t0z 0 = .inr t → tok t → t 0 5 = 0 → CGd I b n t p K → Q (va_up K 37 (va_up (K 37) 2 (nI 0))) := by
    intro K t p h1 h2 h3 g
    obtain ⟨f1, f2, f3, gN⟩ := g
    exact hQ1 _ t h1 h2 h3 (fun a ha h37 => by rw [up_n h37]; exact f3 a ha h37) (by rw [up_s, up_s]) (by rw [up_s, up_n (by decide)]; exact f2.2.2.2.2.1) (by rw [up_s, up_n (by decide), f2.2.2.2.2.2, if_pos rfl]) (NLb_c (c := 15) (I := K) (fun a h1 h2 => up_n (by omega)) gN)
  have hend2 : ∀ K t p w s, pAll b n (n + 1) t0z 0 = .inl (w, s) → CFd I b n t p w s K → Q (va_up K 37 (va_up (K 37) 2 (nI 0))) := by
    intro K t p w s h1 hF
    have hR := hF.2.2.1
    exact hQ2 _ w s h1 hF.2.1.1 hF.2.1.2 (fun a ha h37 => by rw [up_n h37]; exact hF.2.2.2.1 a ha h37) (by rw [up_s, up_s]) (by rw [up_s, up_n (by decide)]; exact hR.2.2.2.2.1) (by rw [up_s, up_n (by decide), hR.2.2.2.2.2, if_neg (by have := hF.2.1; omega)])
  have hlp : ∀ m t p K, n + 1 ≤ m + tS b n p → pAll b n (n + 1) t0z 0 = pAll b n m t p → tok t → t 0 5 = 0 → t 0 3 ≤ tS b n p → CGd I b n t p K → T_X4_read_37_p28 e (nI (t 0 3)) K L Q := by
    intro m
    induction m with
    | zero =>
      intro t p K hm _ _ _ _ g
      have := tS_b (b := b) g.1.2.2
      omega
    | succ m ih =>
      intro t p K hm hA ht h05 h03 g
      have hsb := tS_b (b := b) g.1.2.2
      have hkl : tK b n p ≤ 4 := kAt_le _ _ _
      refine b_X4_read_37_p28 ?_
      rw [g.2.1.1, g.2.1.2.1, g.2.1.2.2.2.2.1]
      refine ⟨fun h => ?_, fun _ => ⟨fun h0 => ?_, fun h0 => ⟨fun _ => ?_, fun h => absurd rfl h⟩⟩⟩
      · rw [nI_ltI (by omega) (by omega)] at h
        omega
      · rw [nI_eq (by omega) (by decide)] at h0
        refine hend1 K t p ?_ ht h05 g
        rw [hA]
        show (if tK b n p = 0 then _ else _) = _
        rw [if_pos h0]
      · rw [nI_eq (by omega) (by decide)] at h0
        have hA2 : pAll b n (n + 1) t0z 0 = bd (pLine b n t p) (fun q => pAll b n m q.1 q.2) := by
          rw [hA]
          show (if tK b n p = 0 then _ else _) = _
          rw [if_neg h0]
        refine c_readLine ht h05 (by omega) g (fun K2 t' q h g2 => ?_) (fun K2 w s q t' h h9 hF => ?_)
        · have hi := pLine_i ht h05 (by omega) g.1.2.2 h
          rw [h, bd_r] at hA2
          have hq := tS_b (b := b) hi.1.2
          have := ih t' q K2 (by omega) hA2 hi.2.1 hi.2.2.1 (by omega) g2
          rw [hi.2.2.2, ← nI_add] at this
          exact this
        · rw [h, bd_l] at hA2
          have hst := hend2 K2 t' q w s hA2 hF
          exact b_X4_read_37_p28 ⟨fun _ => hst, fun _ => ⟨fun _ => hst, fun _ => ⟨fun h => absurd h (f_ne hF), fun _ => hst⟩⟩⟩
  refine b_X4_read_37 ?_
  refine c_fill_16 (fun F hF => ?_)
  generalize hK : va_up (va_up (va_up (va_up (va_up (va_up (va_up (va_up (va_up (va_up I 37 (va_up (I 37) 6 (nI 0))) 37 (va_up (va_up (I 37) 6 (nI 0)) 7 (-1 : Int32))) 37 (va_up (va_up (va_up (I 37) 6 (nI 0)) 7 (-1 : Int32)) 5 (nI 0))) 15 (va_up (I 15) 0 (nI 0))) 15 (va_up (va_up (I 15) 0 (nI 0)) 1 (nI 0))) 15 (va_up (va_up (va_up (I 15) 0 (nI 0)) 1 (nI 0)) 2 (nI 0))) 15 (va_up (va_up (va_up (va_up (I 15) 0 (nI 0)) 1 (nI 0)) 2 (nI 0)) 3 (nI 0))) 15 (va_up (va_up (va_up (va_up (va_up (I 15) 0 (nI 0)) 1 (nI 0)) 2 (nI 0)) 3 (nI 0)) 4 (nI 0))) 15 (va_up (va_up (va_up (va_up (va_up (va_up (I 15) 0 (nI 0)) 1 (nI 0)) 2 (nI 0)) 3 (nI 0)) 4 (nI 0)) 7 (nI 0))) 15 (va_up (va_up (va_up (va_up (va_up (va_up (va_up (I 15) 0 (nI 0)) 1 (nI 0)) 2 (nI 0)) 3 (nI 0)) 4 (nI 0)) 7 (nI 0)) 8 (nI 0)) = K0
  have r37 : K0 37 = va_up (va_up (va_up (I 37) 6 (nI 0)) 7 (-1 : Int32)) 5 (nI 0) := by rw [← hK]; rfl
  have r15 : K0 15 = va_up (va_up (va_up (va_up (va_up (va_up (va_up (I 15) 0 (nI 0)) 1 (nI 0)) 2 (nI 0)) 3 (nI 0)) 4 (nI 0)) 7 (nI 0)) 8 (nI 0) := by rw [← hK]; rfl
  have ro : ∀ a, a ≠ 15 → a ≠ 37 → K0 a = I a := fun a h1 h2 => by rw [← hK, up_n h1, up_n h1, up_n h1, up_n h1, up_n h1, up_n h1, up_n h1, up_n h2, up_n h2, up_n h2]
  generalize hK1 : va_up K0 16 F = K1
  have g1 : ∀ a, a ≠ 16 → K1 a = K0 a := fun a h => by rw [← hK1, up_n h]
  have q16 : K1 16 = F := by rw [← hK1, up_s]
  have q37 : K1 37 = va_up (va_up (va_up (I 37) 6 (nI 0)) 7 (-1 : Int32)) 5 (nI 0) := by rw [g1 37 (by decide)]; exact r37
  have q15 : ∀ k, K1 15 k = va_up (va_up (va_up (va_up (va_up (va_up (va_up (I 15) 0 (nI 0)) 1 (nI 0)) 2 (nI 0)) 3 (nI 0)) 4 (nI 0)) 7 (nI 0)) 8 (nI 0) k := fun k => by rw [g1 15 (by decide), r15]
  have q1 : K1 1 = b := by rw [g1 1 (by decide), ro 1 (by decide) (by decide)]; exact hb
  refine c_adv (b := b) (n := n) (p := 0) q1 hn (Nat.zero_le _) (by rw [q37]; exact hI2) (by rw [q37]; rfl) (by rw [q37]; rfl) (by rw [q37]; rfl) (fun K2 k1 k2 => ?_)
  refine hlp (n + 1) t0z 0 K2 (by omega) rfl tok_0 rfl (Nat.zero_le _) ⟨⟨hb, hn, Nat.zero_le _⟩, k2, fun a ha h37 => ?_, ?_⟩
  · rw [k1 a h37, g1 a (by omega), ro a (by omega) h37]
  · refine NLb_c (c := 15) (I := K1) (fun a h1 h2 => k1 a (by omega)) ⟨q15 0, q15 1, q15 2, q15 3, q15 4, q15 7, q15 8, fun k hk => ?_, (fun k _ h => by cases h), (fun k _ h => by cases h), fun j h => absurd h (Nat.not_lt_zero _), fun j h => absurd h (Nat.not_lt_zero _), fun j h => absurd h (Nat.not_lt_zero _), fun j h => absurd h (Nat.not_lt_zero _)⟩
    show K1 16 k = nI 0
    rw [q16]
    exact hF k hk
