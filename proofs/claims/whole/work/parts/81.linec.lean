/-! a town told: what a line says; the class's side -/
def bd {α β : Type} (r : (Nat × Nat) ⊕ α) (f : α → (Nat × Nat) ⊕ β) : (Nat × Nat) ⊕ β := match r with
  | .inl e => .inl e
  | .inr a => f a
theorem bd_l {α β : Type} {e : Nat × Nat} {f : α → (Nat × Nat) ⊕ β} : bd (.inl e) f = .inl e := rfl
theorem bd_r {α β : Type} {a : α} {f : α → (Nat × Nat) ⊕ β} : bd (.inr a) f = f a := rfl
def pN (b : Nat → Int32) (n lo hi p : Nat) : (Nat × Nat) ⊕ (Nat × Nat) := if tK b n p = 2 then (if lo ≤ tV b n p ∧ tV b n p ≤ hi then .inr (tV b n p, tE b n p) else .inl (2, tS b n p)) else .inl (1, tS b n p)
noncomputable def pW (b : Nat → Int32) (n j p : Nat) : (Nat × Nat) ⊕ Nat := @ite _ (isW b n p j) (Classical.propDecidable _) (.inr (tE b n p)) (.inl (1, tS b n p))
theorem pW_t {b : Nat → Int32} {n j p : Nat} (h : isW b n p j) : pW b n j p = .inr (tE b n p) := by unfold pW; rw [if_pos h]
theorem pW_f {b : Nat → Int32} {n j p : Nat} (h : ¬ isW b n p j) : pW b n j p = .inl (1, tS b n p) := by unfold pW; rw [if_neg h]
def twT (t : tw) (c u h : Nat) : tw := va_up t 0 (va_up (va_up (va_up (t 0) 0 c) 1 u) 2 h)
def lnT (t : tw) : tw := va_up t 0 (va_up (t 0) 3 (t 0 3 + 1))
def edT (t : tw) (x y h : Nat) : tw := va_up (va_up (va_up (va_up t 4 (va_up (t 4) (t 0 4) x)) 5 (va_up (t 5) (t 0 4) y)) 6 (va_up (t 6) (t 0 4) h)) 0 (va_up (t 0) 4 (t 0 4 + 1))
noncomputable def pTown (b : Nat → Int32) (n : Nat) (t : tw) (p : Nat) : (Nat × Nat) ⊕ (tw × Nat) := bd (pW b n 0 p) (fun p1 => bd (pW b n 1 p1) (fun p2 => bd (pN b n 2 8 p2) (fun c => bd (pW b n 2 c.2) (fun p4 => bd (pN b n 0 3 p4) (fun u => bd (pW b n 3 u.2) (fun p6 => bd (pN b n 0 3 p6) (fun h => .inr (twT t c.1 u.1 h.1, h.2))))))))
noncomputable def pStreet (b : Nat → Int32) (n : Nat) (t : tw) (p : Nat) : (Nat × Nat) ⊕ (tw × Nat) := bd (pW b n 4 p) (fun p1 => bd (pN b n 0 (t 0 0 - 1) p1) (fun x => bd (pN b n 0 (t 0 0 - 1) x.2) (fun y => if x.1 = y.1 then .inl (2, tS b n x.2) else bd (pN b n 1 9 y.2) (fun w => if t 1 (8 * x.1 + y.1) = 0 ∧ 14 ≤ (ar t).length / 2 then .inl (3, tS b n y.2) else .inr (layT t x.1 y.1 w.1, w.2)))))
noncomputable def pTurn (b : Nat → Int32) (n : Nat) (t : tw) (p : Nat) : (Nat × Nat) ⊕ (tw × Nat) := bd (pW b n 5 p) (fun p1 => bd (pN b n 0 (t 0 0 - 1) p1) (fun x => bd (pN b n 0 (t 0 0 - 1) x.2) (fun y => if t 1 (8 * x.1 + y.1) = 0 then .inl (2, tS b n x.2) else bd (pN b n 0 (t 0 0 - 1) y.2) (fun z => if t 1 (8 * y.1 + z.1) = 0 then .inl (2, tS b n y.2) else bd (pW b n 2 z.2) (fun p4 => bd (pN b n 0 9 p4) (fun u => .inr (lwT t (64 * x.1 + 8 * y.1 + z.1) u.1, u.2)))))))
noncomputable def pErrand (b : Nat → Int32) (n : Nat) (t : tw) (p : Nat) : (Nat × Nat) ⊕ (tw × Nat) := if 6 ≤ t 0 4 then .inl (3, tS b n p) else bd (pW b n 6 p) (fun p1 => bd (pN b n 0 (t 0 0 - 1) p1) (fun x => bd (pN b n 0 (t 0 0 - 1) x.2) (fun y => if x.1 = y.1 then .inl (2, tS b n x.2) else bd (pW b n 7 y.2) (fun p4 => bd (pN b n 0 23 p4) (fun h => .inr (edT t x.1 y.1 h.1, h.2))))))
noncomputable def pBody (b : Nat → Int32) (n : Nat) (t : tw) (p : Nat) : (Nat × Nat) ⊕ (tw × Nat) := if t 0 3 = 0 then pTown b n t p else @ite _ (isW b n p 0) (Classical.propDecidable _) (.inl (1, tS b n p)) (@ite _ (isW b n p 4) (Classical.propDecidable _) (pStreet b n t p) (@ite _ (isW b n p 5) (Classical.propDecidable _) (pTurn b n t p) (@ite _ (isW b n p 6) (Classical.propDecidable _) (pErrand b n t p) (.inl (1, tS b n p)))))
noncomputable def pLine (b : Nat → Int32) (n : Nat) (t : tw) (p : Nat) : (Nat × Nat) ⊕ (tw × Nat) := bd (pBody b n t p) (fun q => if tK b n q.2 = 3 then .inr (lnT q.1, tE b n q.2) else .inl (1, tS b n q.2))
noncomputable def pAll (b : Nat → Int32) (n : Nat) : Nat → tw → Nat → (Nat × Nat) ⊕ tw
  | 0, t, _ => .inr t
  | m + 1, t, p => if tK b n p = 0 then .inr t else bd (pLine b n t p) (fun q => pAll b n m q.1 q.2)
theorem NLb_c {c : Nat} {t : tw} {I J : Nat → Nat → Int32} (h : ∀ a, c ≤ a → a ≤ c + 11 → J a = I a) (hC : NLb c t I) : NLb c t J := by
  unfold NLb at hC ⊢
  rw [h c (by omega) (by omega), h (c + 1) (by omega) (by omega), h (c + 6) (by omega) (by omega), h (c + 7) (by omega) (by omega), h (c + 8) (by omega) (by omega), h (c + 9) (by omega) (by omega), h (c + 10) (by omega) (by omega), h (c + 11) (by omega) (by omega)]
  exact hC
/-- the class reads on: good, or with a fault -/
def CGd (I0 : Nat → Nat → Int32) (b : Nat → Int32) (n : Nat) (t : tw) (p : Nat) (J : Nat → Nat → Int32) : Prop := (I0 1 = b ∧ n ≤ 1600 ∧ p ≤ n) ∧ RS b n p 0 0 J ∧ (∀ a, (a < 15 ∨ 26 < a) → a ≠ 37 → J a = I0 a) ∧ NLb 15 t J
def CFd (I0 : Nat → Nat → Int32) (b : Nat → Int32) (n : Nat) (t : tw) (p f s : Nat) (J : Nat → Nat → Int32) : Prop := (I0 1 = b ∧ n ≤ 1600 ∧ p ≤ n) ∧ (0 < f ∧ f ≤ 3) ∧ RS b n p f s J ∧ (∀ a, (a < 15 ∨ 26 < a) → a ≠ 37 → J a = I0 a) ∧ (∀ k, k < 64 → J 16 k = nI (t 1 k))
section RD
variable {e : am_V} {I0 J : Nat → Nat → Int32} {L : Nat → Nat → Int64} {b : Nat → Int32} {n p : Nat} {t : tw}
theorem g_adv {Q : (Nat → Nat → Int32) → Prop} (h : CGd I0 b n t p J) (hQ : ∀ K, CGd I0 b n t (tE b n p) K → Q K) : C_X4_advance_37 e J L Q := by
  obtain ⟨⟨h1, h2, h3⟩, ⟨k2, k3, k4, k5, k6, k7⟩, h4, h5⟩ := h
  have hE := tE_b (b := b) h3
  refine c_adv (b := b) (n := n) (p := tE b n p) ((h4 1 (by omega) (by decide)).trans h1) h2 hE.2.1 k2 k5 k6 (by rw [k7, if_pos rfl]) (fun K f hR => hQ K ⟨⟨h1, h2, hE.2.1⟩, hR, fun a ha h37 => (f a h37).trans (h4 a ha h37), NLb_c (fun a h6 h7 => f a (by omega)) h5⟩)
theorem f_adv {Q : (Nat → Nat → Int32) → Prop} {f s : Nat} (h : CFd I0 b n t p f s J) (hQ : Q J) : C_X4_advance_37 e J L Q := b_X4_advance_37 ⟨fun h0 => by
  have := h.2.2.1.2.2.2.2.1
  rw [this, nI_eq (by have := h.2.1; omega) (by decide)] at h0
  have := h.2.1
  omega, fun _ => hQ⟩
theorem g_chk1 {Q : (Nat → Nat → Int32) → Prop} {w : Int32} (hQ : Q J) : C_X4_check_37 e (nI 1) w J L Q := b_X4_check_37 ⟨fun h => absurd h (by decide), fun _ => hQ⟩
theorem g_chk0 {Q : (Nat → Nat → Int32) → Prop} {w : Nat} (h : CGd I0 b n t p J) (hw : 0 < w ∧ w ≤ 3) (hQ : ∀ K, CFd I0 b n t p w (tS b n p) K → Q K) : C_X4_check_37 e (nI 0) (nI w) J L Q := by
  obtain ⟨h1, ⟨k2, k3, k4, k5, k6, k7⟩, h4, h5⟩ := h
  refine b_X4_check_37 ⟨fun _ => ⟨fun _ => hQ _ ⟨h1, hw, ⟨k2, k3, k4, k5, rfl, by rw [if_neg (by omega)]; exact k4⟩, fun a ha h37 => by rw [up_n h37, up_n h37]; exact h4 a ha h37, h5.2.2.2.2.2.2.2.1⟩, fun h0 => absurd k6 h0⟩, fun h0 => absurd rfl h0⟩
theorem f_ne {f s : Nat} (h : CFd I0 b n t p f s J) : ¬ J 37 6 = nI 0 := by
  intro h0
  have := h.2.2.1.2.2.2.2.1
  rw [this, nI_eq (by have := h.2.1; omega) (by decide)] at h0
  have := h.2.1
  omega
theorem f_chk {Q : (Nat → Nat → Int32) → Prop} {f s : Nat} {v w : Int32} (h : CFd I0 b n t p f s J) (hQ : Q J) : C_X4_check_37 e v w J L Q := b_X4_check_37 ⟨fun _ => ⟨fun h0 => absurd h0 (f_ne h), fun _ => hQ⟩, fun _ => hQ⟩
theorem f_num {Q : Int32 → (Nat → Nat → Int32) → Prop} {f s : Nat} {v w : Int32} (h : CFd I0 b n t p f s J) (hQ : Q (nI 0) J) : C_X4_number_37 e v w J L Q := b_X4_number_37 ⟨fun _ => f_chk h ⟨fun h0 => absurd h0 (f_ne h), fun _ => hQ⟩, fun _ => f_chk h ⟨fun h0 => absurd h0 (f_ne h), fun _ => hQ⟩⟩
theorem tV_le (b : Nat → Int32) (n p : Nat) : tV b n p ≤ 1000000 := cvl_le _ _ _
theorem g_num {Q : Int32 → (Nat → Nat → Int32) → Prop} {lo hi : Nat} (h : CGd I0 b n t p J) (hlo : lo ≤ 1000) (hhi : hi ≤ 1000) (hQ1 : ∀ v q, pN b n lo hi p = .inr (v, q) → q = tE b n p → lo ≤ v → v ≤ hi → Q (nI v) J) (hQ2 : ∀ K w s, pN b n lo hi p = .inl (w, s) → CFd I0 b n t p w s K → Q (nI 0) K) : C_X4_number_37 e (nI lo) (nI hi) J L Q := by
  have hG := h
  obtain ⟨⟨h1, h2, h3⟩, ⟨k2, k3, k4, k5, k6, k7⟩, h4, h5⟩ := h
  have hkl : tK b n p ≤ 4 := kAt_le _ _ _
  have hvl := tV_le b n p
  refine b_X4_number_37 ?_
  rw [k3]
  refine ⟨fun hk => ?_, fun hk => ?_⟩
  · rw [nI_eq (by omega) (by decide)] at hk
    refine g_chk1 ⟨fun _ => ?_, fun h0 => absurd k6 h0⟩
    refine c_value ((h4 1 (by omega) (by decide)).trans h1) h2 h3 hG.2.1 hk ?_
    have hbad : ¬ (lo ≤ tV b n p ∧ tV b n p ≤ hi) → C_X4_check_37 e (nI 0) (nI 2) J L (fun I8 => (((I8 37 6) = nI 0 → Q (nI (tV b n p)) I8) ∧ (¬ (I8 37 6) = nI 0 → Q (nI 0) I8))) := by
      intro hr
      refine g_chk0 hG (by omega) (fun K hK => ⟨fun h0 => absurd h0 (f_ne hK), fun _ => hQ2 K 2 _ ?_ hK⟩)
      unfold pN
      rw [if_pos hk, if_neg hr]
    refine ⟨fun h0 => ?_, fun h0 => ⟨fun h6 => ?_, fun h6 => ?_⟩⟩
    · rw [nI_ltI (by omega) (by omega)] at h0
      exact hbad (by omega)
    · rw [nI_ltI (by omega) (by omega)] at h6
      exact hbad (by omega)
    · rw [nI_ltI (by omega) (by omega)] at h0 h6
      refine g_chk1 ⟨fun _ => hQ1 _ _ ?_ rfl (by omega) (by omega), fun h0 => absurd k6 h0⟩
      unfold pN
      rw [if_pos hk, if_pos (by omega)]
  · rw [nI_eq (by omega) (by decide)] at hk
    refine g_chk0 hG (by omega) (fun K hK => ⟨fun h0 => absurd h0 (f_ne hK), fun _ => hQ2 K 1 _ ?_ hK⟩)
    unfold pN
    rw [if_neg hk]
theorem g_is0 {Q : Int32 → (Nat → Nat → Int32) → Prop} (h : CGd I0 b n t p J) (h1 : isW b n p 0 → Q (nI 1) J) (h0 : ¬ isW b n p 0 → Q (nI 0) J) : C_X4_isWord_37_s0 e J L Q := c_isW_0 ((h.2.2.1 1 (by omega) (by decide)).trans h.1.1) h.1.2.1 h.1.2.2 h.2.1 h1 h0
theorem g_pw0 {Q : (Nat → Nat → Int32) → Prop} (h : CGd I0 b n t p J) (hQ1 : ∀ K q, pW b n 0 p = .inr q → CGd I0 b n t q K → Q K) (hQ2 : ∀ K w s, pW b n 0 p = .inl (w, s) → CFd I0 b n t p w s K → Q K) : C_X4_passWord_37_s0 e J L Q := by
  refine b_X4_passWord_37_s0 (g_is0 h (fun hw => g_chk1 (g_adv h (fun K hK => hQ1 K _ (pW_t hw) hK))) (fun hw => ?_))
  exact g_chk0 (w := 1) h (by omega) (fun K hK => f_adv hK (hQ2 K 1 _ (pW_f hw) hK))
theorem f_pw0 {Q : (Nat → Nat → Int32) → Prop} {f s : Nat} (h : CFd I0 b n t p f s J) (hQ : Q J) : C_X4_passWord_37_s0 e J L Q := by
  refine b_X4_passWord_37_s0 (c_isW_0 ((h.2.2.2.1 1 (by omega) (by decide)).trans h.1.1) h.1.2.1 h.1.2.2 h.2.2.1 (fun _ => f_chk h (f_adv h hQ)) (fun _ => f_chk h (f_adv h hQ)))
theorem g_is1 {Q : Int32 → (Nat → Nat → Int32) → Prop} (h : CGd I0 b n t p J) (h1 : isW b n p 1 → Q (nI 1) J) (h0 : ¬ isW b n p 1 → Q (nI 0) J) : C_X4_isWord_37_s1 e J L Q := c_isW_1 ((h.2.2.1 1 (by omega) (by decide)).trans h.1.1) h.1.2.1 h.1.2.2 h.2.1 h1 h0
theorem g_pw1 {Q : (Nat → Nat → Int32) → Prop} (h : CGd I0 b n t p J) (hQ1 : ∀ K q, pW b n 1 p = .inr q → CGd I0 b n t q K → Q K) (hQ2 : ∀ K w s, pW b n 1 p = .inl (w, s) → CFd I0 b n t p w s K → Q K) : C_X4_passWord_37_s1 e J L Q := by
  refine b_X4_passWord_37_s1 (g_is1 h (fun hw => g_chk1 (g_adv h (fun K hK => hQ1 K _ (pW_t hw) hK))) (fun hw => ?_))
  exact g_chk0 (w := 1) h (by omega) (fun K hK => f_adv hK (hQ2 K 1 _ (pW_f hw) hK))
theorem f_pw1 {Q : (Nat → Nat → Int32) → Prop} {f s : Nat} (h : CFd I0 b n t p f s J) (hQ : Q J) : C_X4_passWord_37_s1 e J L Q := by
  refine b_X4_passWord_37_s1 (c_isW_1 ((h.2.2.2.1 1 (by omega) (by decide)).trans h.1.1) h.1.2.1 h.1.2.2 h.2.2.1 (fun _ => f_chk h (f_adv h hQ)) (fun _ => f_chk h (f_adv h hQ)))
theorem g_is2 {Q : Int32 → (Nat → Nat → Int32) → Prop} (h : CGd I0 b n t p J) (h1 : isW b n p 2 → Q (nI 1) J) (h0 : ¬ isW b n p 2 → Q (nI 0) J) : C_X4_isWord_37_s2 e J L Q := c_isW_2 ((h.2.2.1 1 (by omega) (by decide)).trans h.1.1) h.1.2.1 h.1.2.2 h.2.1 h1 h0
theorem g_pw2 {Q : (Nat → Nat → Int32) → Prop} (h : CGd I0 b n t p J) (hQ1 : ∀ K q, pW b n 2 p = .inr q → CGd I0 b n t q K → Q K) (hQ2 : ∀ K w s, pW b n 2 p = .inl (w, s) → CFd I0 b n t p w s K → Q K) : C_X4_passWord_37_s2 e J L Q := by
  refine b_X4_passWord_37_s2 (g_is2 h (fun hw => g_chk1 (g_adv h (fun K hK => hQ1 K _ (pW_t hw) hK))) (fun hw => ?_))
  exact g_chk0 (w := 1) h (by omega) (fun K hK => f_adv hK (hQ2 K 1 _ (pW_f hw) hK))
theorem f_pw2 {Q : (Nat → Nat → Int32) → Prop} {f s : Nat} (h : CFd I0 b n t p f s J) (hQ : Q J) : C_X4_passWord_37_s2 e J L Q := by
  refine b_X4_passWord_37_s2 (c_isW_2 ((h.2.2.2.1 1 (by omega) (by decide)).trans h.1.1) h.1.2.1 h.1.2.2 h.2.2.1 (fun _ => f_chk h (f_adv h hQ)) (fun _ => f_chk h (f_adv h hQ)))
theorem g_is3 {Q : Int32 → (Nat → Nat → Int32) → Prop} (h : CGd I0 b n t p J) (h1 : isW b n p 3 → Q (nI 1) J) (h0 : ¬ isW b n p 3 → Q (nI 0) J) : C_X4_isWord_37_s3 e J L Q := c_isW_3 ((h.2.2.1 1 (by omega) (by decide)).trans h.1.1) h.1.2.1 h.1.2.2 h.2.1 h1 h0
theorem g_pw3 {Q : (Nat → Nat → Int32) → Prop} (h : CGd I0 b n t p J) (hQ1 : ∀ K q, pW b n 3 p = .inr q → CGd I0 b n t q K → Q K) (hQ2 : ∀ K w s, pW b n 3 p = .inl (w, s) → CFd I0 b n t p w s K → Q K) : C_X4_passWord_37_s3 e J L Q := by
  refine b_X4_passWord_37_s3 (g_is3 h (fun hw => g_chk1 (g_adv h (fun K hK => hQ1 K _ (pW_t hw) hK))) (fun hw => ?_))
  exact g_chk0 (w := 1) h (by omega) (fun K hK => f_adv hK (hQ2 K 1 _ (pW_f hw) hK))
theorem f_pw3 {Q : (Nat → Nat → Int32) → Prop} {f s : Nat} (h : CFd I0 b n t p f s J) (hQ : Q J) : C_X4_passWord_37_s3 e J L Q := by
  refine b_X4_passWord_37_s3 (c_isW_3 ((h.2.2.2.1 1 (by omega) (by decide)).trans h.1.1) h.1.2.1 h.1.2.2 h.2.2.1 (fun _ => f_chk h (f_adv h hQ)) (fun _ => f_chk h (f_adv h hQ)))
theorem g_is4 {Q : Int32 → (Nat → Nat → Int32) → Prop} (h : CGd I0 b n t p J) (h1 : isW b n p 4 → Q (nI 1) J) (h0 : ¬ isW b n p 4 → Q (nI 0) J) : C_X4_isWord_37_s4 e J L Q := c_isW_4 ((h.2.2.1 1 (by omega) (by decide)).trans h.1.1) h.1.2.1 h.1.2.2 h.2.1 h1 h0
theorem g_pw4 {Q : (Nat → Nat → Int32) → Prop} (h : CGd I0 b n t p J) (hQ1 : ∀ K q, pW b n 4 p = .inr q → CGd I0 b n t q K → Q K) (hQ2 : ∀ K w s, pW b n 4 p = .inl (w, s) → CFd I0 b n t p w s K → Q K) : C_X4_passWord_37_s4 e J L Q := by
  refine b_X4_passWord_37_s4 (g_is4 h (fun hw => g_chk1 (g_adv h (fun K hK => hQ1 K _ (pW_t hw) hK))) (fun hw => ?_))
  exact g_chk0 (w := 1) h (by omega) (fun K hK => f_adv hK (hQ2 K 1 _ (pW_f hw) hK))
theorem f_pw4 {Q : (Nat → Nat → Int32) → Prop} {f s : Nat} (h : CFd I0 b n t p f s J) (hQ : Q J) : C_X4_passWord_37_s4 e J L Q := by
  refine b_X4_passWord_37_s4 (c_isW_4 ((h.2.2.2.1 1 (by omega) (by decide)).trans h.1.1) h.1.2.1 h.1.2.2 h.2.2.1 (fun _ => f_chk h (f_adv h hQ)) (fun _ => f_chk h (f_adv h hQ)))
theorem g_is5 {Q : Int32 → (Nat → Nat → Int32) → Prop} (h : CGd I0 b n t p J) (h1 : isW b n p 5 → Q (nI 1) J) (h0 : ¬ isW b n p 5 → Q (nI 0) J) : C_X4_isWord_37_s5 e J L Q := c_isW_5 ((h.2.2.1 1 (by omega) (by decide)).trans h.1.1) h.1.2.1 h.1.2.2 h.2.1 h1 h0
theorem g_pw5 {Q : (Nat → Nat → Int32) → Prop} (h : CGd I0 b n t p J) (hQ1 : ∀ K q, pW b n 5 p = .inr q → CGd I0 b n t q K → Q K) (hQ2 : ∀ K w s, pW b n 5 p = .inl (w, s) → CFd I0 b n t p w s K → Q K) : C_X4_passWord_37_s5 e J L Q := by
  refine b_X4_passWord_37_s5 (g_is5 h (fun hw => g_chk1 (g_adv h (fun K hK => hQ1 K _ (pW_t hw) hK))) (fun hw => ?_))
  exact g_chk0 (w := 1) h (by omega) (fun K hK => f_adv hK (hQ2 K 1 _ (pW_f hw) hK))
theorem f_pw5 {Q : (Nat → Nat → Int32) → Prop} {f s : Nat} (h : CFd I0 b n t p f s J) (hQ : Q J) : C_X4_passWord_37_s5 e J L Q := by
  refine b_X4_passWord_37_s5 (c_isW_5 ((h.2.2.2.1 1 (by omega) (by decide)).trans h.1.1) h.1.2.1 h.1.2.2 h.2.2.1 (fun _ => f_chk h (f_adv h hQ)) (fun _ => f_chk h (f_adv h hQ)))
theorem g_is6 {Q : Int32 → (Nat → Nat → Int32) → Prop} (h : CGd I0 b n t p J) (h1 : isW b n p 6 → Q (nI 1) J) (h0 : ¬ isW b n p 6 → Q (nI 0) J) : C_X4_isWord_37_s6 e J L Q := c_isW_6 ((h.2.2.1 1 (by omega) (by decide)).trans h.1.1) h.1.2.1 h.1.2.2 h.2.1 h1 h0
theorem g_pw6 {Q : (Nat → Nat → Int32) → Prop} (h : CGd I0 b n t p J) (hQ1 : ∀ K q, pW b n 6 p = .inr q → CGd I0 b n t q K → Q K) (hQ2 : ∀ K w s, pW b n 6 p = .inl (w, s) → CFd I0 b n t p w s K → Q K) : C_X4_passWord_37_s6 e J L Q := by
  refine b_X4_passWord_37_s6 (g_is6 h (fun hw => g_chk1 (g_adv h (fun K hK => hQ1 K _ (pW_t hw) hK))) (fun hw => ?_))
  exact g_chk0 (w := 1) h (by omega) (fun K hK => f_adv hK (hQ2 K 1 _ (pW_f hw) hK))
theorem f_pw6 {Q : (Nat → Nat → Int32) → Prop} {f s : Nat} (h : CFd I0 b n t p f s J) (hQ : Q J) : C_X4_passWord_37_s6 e J L Q := by
  refine b_X4_passWord_37_s6 (c_isW_6 ((h.2.2.2.1 1 (by omega) (by decide)).trans h.1.1) h.1.2.1 h.1.2.2 h.2.2.1 (fun _ => f_chk h (f_adv h hQ)) (fun _ => f_chk h (f_adv h hQ)))
theorem g_is7 {Q : Int32 → (Nat → Nat → Int32) → Prop} (h : CGd I0 b n t p J) (h1 : isW b n p 7 → Q (nI 1) J) (h0 : ¬ isW b n p 7 → Q (nI 0) J) : C_X4_isWord_37_s7 e J L Q := c_isW_7 ((h.2.2.1 1 (by omega) (by decide)).trans h.1.1) h.1.2.1 h.1.2.2 h.2.1 h1 h0
theorem g_pw7 {Q : (Nat → Nat → Int32) → Prop} (h : CGd I0 b n t p J) (hQ1 : ∀ K q, pW b n 7 p = .inr q → CGd I0 b n t q K → Q K) (hQ2 : ∀ K w s, pW b n 7 p = .inl (w, s) → CFd I0 b n t p w s K → Q K) : C_X4_passWord_37_s7 e J L Q := by
  refine b_X4_passWord_37_s7 (g_is7 h (fun hw => g_chk1 (g_adv h (fun K hK => hQ1 K _ (pW_t hw) hK))) (fun hw => ?_))
  exact g_chk0 (w := 1) h (by omega) (fun K hK => f_adv hK (hQ2 K 1 _ (pW_f hw) hK))
theorem f_pw7 {Q : (Nat → Nat → Int32) → Prop} {f s : Nat} (h : CFd I0 b n t p f s J) (hQ : Q J) : C_X4_passWord_37_s7 e J L Q := by
  refine b_X4_passWord_37_s7 (c_isW_7 ((h.2.2.2.1 1 (by omega) (by decide)).trans h.1.1) h.1.2.1 h.1.2.2 h.2.2.1 (fun _ => f_chk h (f_adv h hQ)) (fun _ => f_chk h (f_adv h hQ)))
theorem vp8 {x y : Nat} (hx : x < 8) (hy : y < 8) : vp_in (nI x * nI 8 + nI y) 64 := by
  rw [pk_mul, nI_add]
  exact vp_in_nI (by omega) (by decide)
theorem ix8 {x y : Nat} (hx : x < 8) (hy : y < 8) : (nI x * nI 8 + nI y).toNatClampNeg = 8 * x + y := by
  rw [pk_mul, nI_add, nI_clamp (by omega)]
  omega
theorem CF_15 {f s : Nat} {K : Nat → Nat → Int32} (h : CFd I0 b n t p f s J) (hK : ∀ a, a ≠ 15 → K a = J a) : CFd I0 b n t p f s K := by
  obtain ⟨h1, h2, h3, h4, h5⟩ := h
  refine ⟨h1, h2, ?_, fun a ha h37 => by rw [hK a (by omega)]; exact h4 a ha h37, fun k hk => by rw [hK 16 (by decide)]; exact h5 k hk⟩
  unfold RS at h3 ⊢
  rw [hK 37 (by decide)]
  exact h3
theorem c_readTown {Q : (Nat → Nat → Int32) → Prop} (hk : tok t) (hG : CGd I0 b n t p J) (hQ1 : ∀ K t' q, pTown b n t p = .inr (t', q) → CGd I0 b n t' q K → Q K) (hQ2 : ∀ K w s q, pTown b n t p = .inl (w, s) → CFd I0 b n t q w s K → Q K) : C_X4_readTown_37 e J L Q := by
  refine b_X4_readTown_37 ?_
  refine g_pw0 hG (fun K1 p1 h1 g1 => ?_) (fun K w s hf hF => ?_)
  rotate_left
  · have hq := fun Kz hz => hQ2 Kz w s p (by simp only [pTown, bd_r, bd_l, hf]) (CF_15 hF hz)
    repeat' (first | exact hq _ (fun _ _ => rfl) | exact hq _ (fun a ha => by rw [up_n ha, up_n ha, up_n ha]) | exact hq _ (fun a ha => up_n ha) | refine f_adv hF ?_ | refine f_chk hF ?_ | refine f_num hF ?_ | refine f_pw1 hF ?_ | refine f_pw2 hF ?_ | refine f_pw3 hF ?_ | refine f_pw6 hF ?_ | refine f_pw7 hF ?_ | refine ⟨fun h => absurd h (f_ne hF), fun _ => ?_⟩ | refine ⟨vp8 (by omega) (by omega), ?_⟩ | refine ⟨fun _ => ?_, fun _ => ?_⟩)
  refine g_pw1 g1 (fun K2 p2 h2 g2 => ?_) (fun K w s hf hF => ?_)
  rotate_left
  · have hq := fun Kz hz => hQ2 Kz w s p1 (by simp only [pTown, bd_r, bd_l, h1, hf]) (CF_15 hF hz)
    repeat' (first | exact hq _ (fun _ _ => rfl) | exact hq _ (fun a ha => by rw [up_n ha, up_n ha, up_n ha]) | exact hq _ (fun a ha => up_n ha) | refine f_adv hF ?_ | refine f_chk hF ?_ | refine f_num hF ?_ | refine f_pw1 hF ?_ | refine f_pw2 hF ?_ | refine f_pw3 hF ?_ | refine f_pw6 hF ?_ | refine f_pw7 hF ?_ | refine ⟨fun h => absurd h (f_ne hF), fun _ => ?_⟩ | refine ⟨vp8 (by omega) (by omega), ?_⟩ | refine ⟨fun _ => ?_, fun _ => ?_⟩)
  refine g_num g2 (by decide) (by decide) (fun v3 p3 h3 e3 lo3 hi3 => ?_) (fun K w s hf hF => ?_)
  rotate_left
  · have hq := fun Kz hz => hQ2 Kz w s p2 (by simp only [pTown, bd_r, bd_l, h1, h2, hf]) (CF_15 hF hz)
    repeat' (first | exact hq _ (fun _ _ => rfl) | exact hq _ (fun a ha => by rw [up_n ha, up_n ha, up_n ha]) | exact hq _ (fun a ha => up_n ha) | refine f_adv hF ?_ | refine f_chk hF ?_ | refine f_num hF ?_ | refine f_pw1 hF ?_ | refine f_pw2 hF ?_ | refine f_pw3 hF ?_ | refine f_pw6 hF ?_ | refine f_pw7 hF ?_ | refine ⟨fun h => absurd h (f_ne hF), fun _ => ?_⟩ | refine ⟨vp8 (by omega) (by omega), ?_⟩ | refine ⟨fun _ => ?_, fun _ => ?_⟩)
  refine g_adv g2 (fun K4 g4 => ?_)
  rw [← e3] at g4
  refine g_pw2 g4 (fun K5 p5 h5 g5 => ?_) (fun K w s hf hF => ?_)
  rotate_left
  · have hq := fun Kz hz => hQ2 Kz w s p3 (by simp only [pTown, bd_r, bd_l, h1, h2, h3, hf]) (CF_15 hF hz)
    repeat' (first | exact hq _ (fun _ _ => rfl) | exact hq _ (fun a ha => by rw [up_n ha, up_n ha, up_n ha]) | exact hq _ (fun a ha => up_n ha) | refine f_adv hF ?_ | refine f_chk hF ?_ | refine f_num hF ?_ | refine f_pw1 hF ?_ | refine f_pw2 hF ?_ | refine f_pw3 hF ?_ | refine f_pw6 hF ?_ | refine f_pw7 hF ?_ | refine ⟨fun h => absurd h (f_ne hF), fun _ => ?_⟩ | refine ⟨vp8 (by omega) (by omega), ?_⟩ | refine ⟨fun _ => ?_, fun _ => ?_⟩)
  refine g_num g5 (by decide) (by decide) (fun v6 p6 h6 e6 lo6 hi6 => ?_) (fun K w s hf hF => ?_)
  rotate_left
  · have hq := fun Kz hz => hQ2 Kz w s p5 (by simp only [pTown, bd_r, bd_l, h1, h2, h3, h5, hf]) (CF_15 hF hz)
    repeat' (first | exact hq _ (fun _ _ => rfl) | exact hq _ (fun a ha => by rw [up_n ha, up_n ha, up_n ha]) | exact hq _ (fun a ha => up_n ha) | refine f_adv hF ?_ | refine f_chk hF ?_ | refine f_num hF ?_ | refine f_pw1 hF ?_ | refine f_pw2 hF ?_ | refine f_pw3 hF ?_ | refine f_pw6 hF ?_ | refine f_pw7 hF ?_ | refine ⟨fun h => absurd h (f_ne hF), fun _ => ?_⟩ | refine ⟨vp8 (by omega) (by omega), ?_⟩ | refine ⟨fun _ => ?_, fun _ => ?_⟩)
  refine g_adv g5 (fun K7 g7 => ?_)
  rw [← e6] at g7
  refine g_pw3 g7 (fun K8 p8 h8 g8 => ?_) (fun K w s hf hF => ?_)
  rotate_left
  · have hq := fun Kz hz => hQ2 Kz w s p6 (by simp only [pTown, bd_r, bd_l, h1, h2, h3, h5, h6, hf]) (CF_15 hF hz)
    repeat' (first | exact hq _ (fun _ _ => rfl) | exact hq _ (fun a ha => by rw [up_n ha, up_n ha, up_n ha]) | exact hq _ (fun a ha => up_n ha) | refine f_adv hF ?_ | refine f_chk hF ?_ | refine f_num hF ?_ | refine f_pw1 hF ?_ | refine f_pw2 hF ?_ | refine f_pw3 hF ?_ | refine f_pw6 hF ?_ | refine f_pw7 hF ?_ | refine ⟨fun h => absurd h (f_ne hF), fun _ => ?_⟩ | refine ⟨vp8 (by omega) (by omega), ?_⟩ | refine ⟨fun _ => ?_, fun _ => ?_⟩)
  refine g_num g8 (by decide) (by decide) (fun v9 p9 h9 e9 lo9 hi9 => ?_) (fun K w s hf hF => ?_)
  rotate_left
  · have hq := fun Kz hz => hQ2 Kz w s p8 (by simp only [pTown, bd_r, bd_l, h1, h2, h3, h5, h6, h8, hf]) (CF_15 hF hz)
    repeat' (first | exact hq _ (fun _ _ => rfl) | exact hq _ (fun a ha => by rw [up_n ha, up_n ha, up_n ha]) | exact hq _ (fun a ha => up_n ha) | refine f_adv hF ?_ | refine f_chk hF ?_ | refine f_num hF ?_ | refine f_pw1 hF ?_ | refine f_pw2 hF ?_ | refine f_pw3 hF ?_ | refine f_pw6 hF ?_ | refine f_pw7 hF ?_ | refine ⟨fun h => absurd h (f_ne hF), fun _ => ?_⟩ | refine ⟨vp8 (by omega) (by omega), ?_⟩ | refine ⟨fun _ => ?_, fun _ => ?_⟩)
  refine g_adv g8 (fun K10 g10 => ?_)
  rw [← e9] at g10
  refine hQ1 _ (twT t v3 v6 v9) p9 (by simp only [pTown, bd_r, bd_l, h1, h2, h3, h5, h6, h8, h9]) ?_
  obtain ⟨f1, f2, f3, n0, n1, n2, n3, n4, n7, n8, nS, nM, nR, nF, nO, nH, nL⟩ := g10
  refine ⟨f1, f2, fun a ha h37 => by rw [up_n (by omega), up_n (by omega), up_n (by omega)]; exact f3 a ha h37, rfl, rfl, rfl, n3, n4, n7, n8, nS, nM, nR, nF, nO, nH, nL⟩
theorem c_readStreet {Q : (Nat → Nat → Int32) → Prop} (hk : tok t) (hG : CGd I0 b n t p J) (hc : 1 ≤ t 0 0) (hQ1 : ∀ K t' q, pStreet b n t p = .inr (t', q) → CGd I0 b n t' q K → Q K) (hQ2 : ∀ K w s q, pStreet b n t p = .inl (w, s) → CFd I0 b n t q w s K → Q K) : C_X4_readStreet_37 e J L Q := by
  have hk2 := hk
  obtain ⟨o0, oT, oZ, oY, oD, o9, oN, o28, oB, oX, oE, oF, oA, oH, oU, oV⟩ := hk
  have hlast : ∀ {q K}, CGd I0 b n t q K → K 15 0 - nI 1 = nI (t 0 0 - 1) := fun h => by rw [h.2.2.2.1, pk_sub (by omega)]
  refine b_X4_readStreet_37 ?_
  refine g_pw4 hG (fun K1 p1 h1 g1 => ?_) (fun K w s hf hF => ?_)
  rotate_left
  · have hq := fun K2 h2' => hQ2 K2 w s p (by simp only [pStreet, bd_r, bd_l, hf]) (CF_15 hF h2')
    repeat' (first | exact hq _ (fun _ _ => rfl) | exact hq _ (fun a ha => by rw [up_n ha, up_n ha, up_n ha]) | exact hq _ (fun a ha => up_n ha) | refine f_adv hF ?_ | refine f_chk hF ?_ | refine f_num hF ?_ | refine f_pw1 hF ?_ | refine f_pw2 hF ?_ | refine f_pw3 hF ?_ | refine f_pw6 hF ?_ | refine f_pw7 hF ?_ | refine ⟨fun h => absurd h (f_ne hF), fun _ => ?_⟩ | refine ⟨vp8 (by omega) (by omega), ?_⟩ | refine ⟨fun _ => ?_, fun _ => ?_⟩)
  rw [hlast g1]
  refine g_num g1 (by decide) (by omega) (fun x p2 h2 e2 lo2 hi2 => ?_) (fun K w s hf hF => ?_)
  rotate_left
  · have hq := fun K2 h2' => hQ2 K2 w s p1 (by simp only [pStreet, bd_r, bd_l, h1, hf]) (CF_15 hF h2')
    repeat' (first | exact hq _ (fun _ _ => rfl) | exact hq _ (fun a ha => by rw [up_n ha, up_n ha, up_n ha]) | exact hq _ (fun a ha => up_n ha) | refine f_adv hF ?_ | refine f_chk hF ?_ | refine f_num hF ?_ | refine f_pw1 hF ?_ | refine f_pw2 hF ?_ | refine f_pw3 hF ?_ | refine f_pw6 hF ?_ | refine f_pw7 hF ?_ | refine ⟨fun h => absurd h (f_ne hF), fun _ => ?_⟩ | refine ⟨vp8 (by omega) (by omega), ?_⟩ | refine ⟨fun _ => ?_, fun _ => ?_⟩)
  refine g_adv g1 (fun K3 g3 => ?_)
  rw [← e2] at g3
  refine g_num g3 (by decide) (by omega) (fun y p4 h4 e4 lo4 hi4 => ?_) (fun K w s hf hF => ?_)
  rotate_left
  · have hq := fun K2 h2' => hQ2 K2 w s p2 (by simp only [pStreet, bd_r, bd_l, h1, h2, hf]) (CF_15 hF h2')
    repeat' (first | exact hq _ (fun _ _ => rfl) | exact hq _ (fun a ha => by rw [up_n ha, up_n ha, up_n ha]) | exact hq _ (fun a ha => up_n ha) | refine f_adv hF ?_ | refine f_chk hF ?_ | refine f_num hF ?_ | refine f_pw1 hF ?_ | refine f_pw2 hF ?_ | refine f_pw3 hF ?_ | refine f_pw6 hF ?_ | refine f_pw7 hF ?_ | refine ⟨fun h => absurd h (f_ne hF), fun _ => ?_⟩ | refine ⟨vp8 (by omega) (by omega), ?_⟩ | refine ⟨fun _ => ?_, fun _ => ?_⟩)
  refine ⟨fun hxy => ?_, fun hxy => ?_⟩
  · rw [nI_eq (by omega) (by omega)] at hxy
    refine g_chk0 g3 (by omega) (fun K hF => ?_)
    have hq := fun K2 h2' => hQ2 K2 2 _ p2 (by simp only [pStreet, bd_r, bd_l, h1, h2, h4, hxy, if_true]) (CF_15 hF h2')
    repeat' (first | exact hq _ (fun _ _ => rfl) | exact hq _ (fun a ha => by rw [up_n ha, up_n ha, up_n ha]) | exact hq _ (fun a ha => up_n ha) | refine f_adv hF ?_ | refine f_chk hF ?_ | refine f_num hF ?_ | refine f_pw1 hF ?_ | refine f_pw2 hF ?_ | refine f_pw3 hF ?_ | refine f_pw6 hF ?_ | refine f_pw7 hF ?_ | refine ⟨fun h => absurd h (f_ne hF), fun _ => ?_⟩ | refine ⟨vp8 (by omega) (by omega), ?_⟩ | refine ⟨fun _ => ?_, fun _ => ?_⟩)
  · rw [nI_eq (by omega) (by omega)] at hxy
    refine g_chk1 (g_adv g3 (fun K5 g5 => ?_))
    rw [← e4] at g5
    refine g_num g5 (by decide) (by decide) (fun m p6 h6 e6 lo6 hi6 => ?_) (fun K w s hf hF => ?_)
    rotate_left
    · have hq := fun K2 h2' => hQ2 K2 w s p4 (by simp only [pStreet, bd_r, bd_l, h1, h2, h4, hxy, if_false, hf]) (CF_15 hF h2')
      repeat' (first | exact hq _ (fun _ _ => rfl) | exact hq _ (fun a ha => by rw [up_n ha, up_n ha, up_n ha]) | exact hq _ (fun a ha => up_n ha) | refine f_adv hF ?_ | refine f_chk hF ?_ | refine f_num hF ?_ | refine f_pw1 hF ?_ | refine f_pw2 hF ?_ | refine f_pw3 hF ?_ | refine f_pw6 hF ?_ | refine f_pw7 hF ?_ | refine ⟨fun h => absurd h (f_ne hF), fun _ => ?_⟩ | refine ⟨vp8 (by omega) (by omega), ?_⟩ | refine ⟨fun _ => ?_, fun _ => ?_⟩)
    refine ⟨vp8 (by omega) (by omega), ?_⟩
    have e16 : K5 16 (8 * x + y) = nI (t 1 (8 * x + y)) := g5.2.2.2.2.2.2.2.2.2.2.1 _ (by omega)
    have e4c : K5 15 4 = nI ((ar t).length / 2) := g5.2.2.2.2.2.2.2.1
    have hlb : (ar t).length ≤ 64 := by rw [cn_fl]; exact cn_n _ _
    have u1 := o9 (8 * x + y) (by omega)
    have hsym := oY x (by omega) y (by omega)
    have hlay : ¬ (t 1 (8 * x + y) = 0 ∧ 14 ≤ (ar t).length / 2) → C_X4_check_37 e (nI 1) (nI 3) K5 L (fun I32 => C_X4_advance_37 e I32 L (fun I35 => (((I35 37 6) = nI 0 → C_X7_layStreet_15 e (nI x) (nI y) (nI m) I35 L (fun I38 => Q I38)) ∧ (¬ (I35 37 6) = nI 0 → Q I35)))) := by
      intro hno
      refine g_chk1 (g_adv g5 (fun K7 g7 => ⟨fun _ => ?_, fun h0 => absurd g7.2.1.2.2.2.2.1 h0⟩))
      rw [← e6] at g7
      have hfin := hQ1 
      obtain ⟨f1, f2, f3, n0, n1, n2, n3, n4, n7, n8, nS, nM, nR, nF, nO, nH, nL⟩ := g7
      refine c_layStreet_15 hk2 (by omega) (by omega) hxy (by omega) (fun _ => by omega) n1 n2 (by rw [← cn_fl]; exact n4) nS (fun k hk hb => ⟨nM k hk hb, nR k hk hb⟩) (fun K8 a1 a2 a3 a4 a5 => ?_)
      refine hQ1 K8 (layT t x y m) p6 (by simp only [pStreet, bd_r, bd_l, h1, h2, h4, hxy, if_false, h6, hno]) ⟨f1, ?_, fun a ha h37 => by rw [a1 a (by omega) (by omega) (by omega) (by omega)]; exact f3 a ha h37, (a2 0 (by decide)).trans n0, (a2 1 (by decide)).trans n1, (a2 2 (by decide)).trans n2, (a2 3 (by decide)).trans n3, by rw [cn_fl]; exact a3, (a2 7 (by decide)).trans n7, (a2 8 (by decide)).trans n8, a4, fun k hk hb => (a5 k hk hb).1, fun k hk hb => (a5 k hk hb).2, fun j hj => ?_, fun j hj => ?_, fun j hj => ?_, fun i hi => ?_⟩
      · unfold RS at f2 ⊢
        rw [a1 37 (by decide) (by decide) (by decide) (by decide)]
        exact f2
      · show K8 23 j = _
        rw [a1 23 (by decide) (by decide) (by decide) (by decide)]; exact nF j hj
      · show K8 24 j = _
        rw [a1 24 (by decide) (by decide) (by decide) (by decide)]; exact nO j hj
      · show K8 25 j = _
        rw [a1 25 (by decide) (by decide) (by decide) (by decide)]; exact nH j hj
      · show K8 26 i = _
        rw [a1 26 (by decide) (by decide) (by decide) (by decide)]; exact nL i hi
    rw [ix8 (by omega) (by omega), e16, e4c]
    refine ⟨fun h0 => ⟨fun h14 => ?_, fun h14 => ?_⟩, fun h0 => ?_⟩
    · rw [nI_eq (by omega) (by decide)] at h0
      rw [nI_leI (by decide) (by omega)] at h14
      refine g_chk0 g5 (by omega) (fun K hF => ?_)
      have hcc : t 1 (8 * x + y) = 0 ∧ 14 ≤ (ar t).length / 2 := ⟨h0, h14⟩
      have hq := fun K2 h2' => hQ2 K2 3 _ p4 (by simp only [pStreet, bd_r, bd_l, h1, h2, h4, hxy, if_false, h6, hcc, and_self, if_true]) (CF_15 hF h2')
      repeat' (first | exact hq _ (fun _ _ => rfl) | exact hq _ (fun a ha => by rw [up_n ha, up_n ha, up_n ha]) | exact hq _ (fun a ha => up_n ha) | refine f_adv hF ?_ | refine f_chk hF ?_ | refine f_num hF ?_ | refine f_pw1 hF ?_ | refine f_pw2 hF ?_ | refine f_pw3 hF ?_ | refine f_pw6 hF ?_ | refine f_pw7 hF ?_ | refine ⟨fun h => absurd h (f_ne hF), fun _ => ?_⟩ | refine ⟨vp8 (by omega) (by omega), ?_⟩ | refine ⟨fun _ => ?_, fun _ => ?_⟩)
    · rw [nI_leI (by decide) (by omega)] at h14
      exact hlay (fun h => h14 h.2)
    · rw [nI_eq (by omega) (by decide)] at h0
      exact hlay (fun h => h0 h.1)
theorem c_readTurn {Q : (Nat → Nat → Int32) → Prop} (hk : tok t) (hG : CGd I0 b n t p J) (hc : 1 ≤ t 0 0) (hQ1 : ∀ K t' q, pTurn b n t p = .inr (t', q) → CGd I0 b n t' q K → Q K) (hQ2 : ∀ K w s q, pTurn b n t p = .inl (w, s) → CFd I0 b n t q w s K → Q K) : C_X4_readTurn_37 e J L Q := by
  have hk2 := hk
  obtain ⟨o0, oT, oZ, oY, oD, o9, oN, o28, oB, oX, oE, oF, oA, oH, oU, oV⟩ := hk
  have hlast : ∀ {q K}, CGd I0 b n t q K → K 15 0 - nI 1 = nI (t 0 0 - 1) := fun h => by rw [h.2.2.2.1, pk_sub (by omega)]
  refine b_X4_readTurn_37 ?_
  refine g_pw5 hG (fun K1 p1 h1 g1 => ?_) (fun K w s hf hF => ?_)
  rotate_left
  · have hq := fun K2 h2' => hQ2 K2 w s p (by simp only [pTurn, bd_r, bd_l, hf]) (CF_15 hF h2')
    repeat' (first | exact hq _ (fun _ _ => rfl) | exact hq _ (fun a ha => by rw [up_n ha, up_n ha, up_n ha]) | exact hq _ (fun a ha => up_n ha) | refine f_adv hF ?_ | refine f_chk hF ?_ | refine f_num hF ?_ | refine f_pw1 hF ?_ | refine f_pw2 hF ?_ | refine f_pw3 hF ?_ | refine f_pw6 hF ?_ | refine f_pw7 hF ?_ | refine ⟨fun h => absurd h (f_ne hF), fun _ => ?_⟩ | refine ⟨vp8 (by omega) (by omega), ?_⟩ | refine ⟨fun _ => ?_, fun _ => ?_⟩)
  rw [hlast g1]
  refine g_num g1 (by decide) (by omega) (fun x p2 h2 e2 lo2 hi2 => ?_) (fun K w s hf hF => ?_)
  rotate_left
  · have hq := fun K2 h2' => hQ2 K2 w s p1 (by simp only [pTurn, bd_r, bd_l, h1, hf]) (CF_15 hF h2')
    repeat' (first | exact hq _ (fun _ _ => rfl) | exact hq _ (fun a ha => by rw [up_n ha, up_n ha, up_n ha]) | exact hq _ (fun a ha => up_n ha) | refine f_adv hF ?_ | refine f_chk hF ?_ | refine f_num hF ?_ | refine f_pw1 hF ?_ | refine f_pw2 hF ?_ | refine f_pw3 hF ?_ | refine f_pw6 hF ?_ | refine f_pw7 hF ?_ | refine ⟨fun h => absurd h (f_ne hF), fun _ => ?_⟩ | refine ⟨vp8 (by omega) (by omega), ?_⟩ | refine ⟨fun _ => ?_, fun _ => ?_⟩)
  refine g_adv g1 (fun K3 g3 => ?_)
  rw [← e2] at g3
  refine g_num g3 (by decide) (by omega) (fun y p4 h4 e4 lo4 hi4 => ?_) (fun K w s hf hF => ?_)
  rotate_left
  · have hq := fun K2 h2' => hQ2 K2 w s p2 (by simp only [pTurn, bd_r, bd_l, h1, h2, hf]) (CF_15 hF h2')
    repeat' (first | exact hq _ (fun _ _ => rfl) | exact hq _ (fun a ha => by rw [up_n ha, up_n ha, up_n ha]) | exact hq _ (fun a ha => up_n ha) | refine f_adv hF ?_ | refine f_chk hF ?_ | refine f_num hF ?_ | refine f_pw1 hF ?_ | refine f_pw2 hF ?_ | refine f_pw3 hF ?_ | refine f_pw6 hF ?_ | refine f_pw7 hF ?_ | refine ⟨fun h => absurd h (f_ne hF), fun _ => ?_⟩ | refine ⟨vp8 (by omega) (by omega), ?_⟩ | refine ⟨fun _ => ?_, fun _ => ?_⟩)
  refine ⟨vp8 (by omega) (by omega), ?_⟩
  have e16 : K3 16 (8 * x + y) = nI (t 1 (8 * x + y)) := g3.2.2.2.2.2.2.2.2.2.2.1 _ (by omega)
  have u1 := o9 (8 * x + y) (by omega)
  rw [ix8 (by omega) (by omega), e16]
  refine ⟨fun h0 => ?_, fun h0 => ?_⟩
  · rw [nI_leI (by omega) (by decide)] at h0
    have h0' : t 1 (8 * x + y) = 0 := by omega
    refine g_chk0 g3 (by omega) (fun K hF => ?_)
    have hq := fun K2 h2' => hQ2 K2 2 _ p2 (by simp only [pTurn, bd_r, bd_l, h1, h2, h4, h0', if_true]) (CF_15 hF h2')
    repeat' (first | exact hq _ (fun _ _ => rfl) | exact hq _ (fun a ha => by rw [up_n ha, up_n ha, up_n ha]) | exact hq _ (fun a ha => up_n ha) | refine f_adv hF ?_ | refine f_chk hF ?_ | refine f_num hF ?_ | refine f_pw1 hF ?_ | refine f_pw2 hF ?_ | refine f_pw3 hF ?_ | refine f_pw6 hF ?_ | refine f_pw7 hF ?_ | refine ⟨fun h => absurd h (f_ne hF), fun _ => ?_⟩ | refine ⟨vp8 (by omega) (by omega), ?_⟩ | refine ⟨fun _ => ?_, fun _ => ?_⟩)
  · rw [nI_leI (by omega) (by decide)] at h0
    have h0' : ¬ t 1 (8 * x + y) = 0 := by omega
    refine g_chk1 (g_adv g3 (fun K5 g5 => ?_))
    rw [← e4] at g5
    refine g_num g5 (by decide) (by omega) (fun z p6 h6 e6 lo6 hi6 => ?_) (fun K w s hf hF => ?_)
    rotate_left
    · have hq := fun K2 h2' => hQ2 K2 w s p4 (by simp only [pTurn, bd_r, bd_l, h1, h2, h4, h0', if_false, hf]) (CF_15 hF h2')
      repeat' (first | exact hq _ (fun _ _ => rfl) | exact hq _ (fun a ha => by rw [up_n ha, up_n ha, up_n ha]) | exact hq _ (fun a ha => up_n ha) | refine f_adv hF ?_ | refine f_chk hF ?_ | refine f_num hF ?_ | refine f_pw1 hF ?_ | refine f_pw2 hF ?_ | refine f_pw3 hF ?_ | refine f_pw6 hF ?_ | refine f_pw7 hF ?_ | refine ⟨fun h => absurd h (f_ne hF), fun _ => ?_⟩ | refine ⟨vp8 (by omega) (by omega), ?_⟩ | refine ⟨fun _ => ?_, fun _ => ?_⟩)
    refine ⟨vp8 (by omega) (by omega), ?_⟩
    have e16' : K5 16 (8 * y + z) = nI (t 1 (8 * y + z)) := g5.2.2.2.2.2.2.2.2.2.2.1 _ (by omega)
    have u2 := o9 (8 * y + z) (by omega)
    rw [ix8 (by omega) (by omega), e16']
    refine ⟨fun h3 => ?_, fun h3 => ?_⟩
    · rw [nI_leI (by omega) (by decide)] at h3
      have h3' : t 1 (8 * y + z) = 0 := by omega
      refine g_chk0 g5 (by omega) (fun K hF => ?_)
      have hq := fun K2 h2' => hQ2 K2 2 _ p4 (by simp only [pTurn, bd_r, bd_l, h1, h2, h4, h0', if_false, h6, h3', if_true]) (CF_15 hF h2')
      repeat' (first | exact hq _ (fun _ _ => rfl) | exact hq _ (fun a ha => by rw [up_n ha, up_n ha, up_n ha]) | exact hq _ (fun a ha => up_n ha) | refine f_adv hF ?_ | refine f_chk hF ?_ | refine f_num hF ?_ | refine f_pw1 hF ?_ | refine f_pw2 hF ?_ | refine f_pw3 hF ?_ | refine f_pw6 hF ?_ | refine f_pw7 hF ?_ | refine ⟨fun h => absurd h (f_ne hF), fun _ => ?_⟩ | refine ⟨vp8 (by omega) (by omega), ?_⟩ | refine ⟨fun _ => ?_, fun _ => ?_⟩)
    · rw [nI_leI (by omega) (by decide)] at h3
      have h3' : ¬ t 1 (8 * y + z) = 0 := by omega
      refine g_chk1 (g_adv g5 (fun K7 g7 => ?_))
      rw [← e6] at g7
      refine g_pw2 g7 (fun K8 p8 h8 g8 => ?_) (fun K w s hf hF => ?_)
      rotate_left
      · have hq := fun K2 h2' => hQ2 K2 w s p6 (by simp only [pTurn, bd_r, bd_l, h1, h2, h4, h0', if_false, h6, h3', hf]) (CF_15 hF h2')
        repeat' (first | exact hq _ (fun _ _ => rfl) | exact hq _ (fun a ha => by rw [up_n ha, up_n ha, up_n ha]) | exact hq _ (fun a ha => up_n ha) | refine f_adv hF ?_ | refine f_chk hF ?_ | refine f_num hF ?_ | refine f_pw1 hF ?_ | refine f_pw2 hF ?_ | refine f_pw3 hF ?_ | refine f_pw6 hF ?_ | refine f_pw7 hF ?_ | refine ⟨fun h => absurd h (f_ne hF), fun _ => ?_⟩ | refine ⟨vp8 (by omega) (by omega), ?_⟩ | refine ⟨fun _ => ?_, fun _ => ?_⟩)
      refine g_num g8 (by decide) (by decide) (fun u p9 h9 e9 lo9 hi9 => ?_) (fun K w s hf hF => ?_)
      rotate_left
      · have hq := fun K2 h2' => hQ2 K2 w s p8 (by simp only [pTurn, bd_r, bd_l, h1, h2, h4, h0', if_false, h6, h3', h8, hf]) (CF_15 hF h2')
        repeat' (first | exact hq _ (fun _ _ => rfl) | exact hq _ (fun a ha => by rw [up_n ha, up_n ha, up_n ha]) | exact hq _ (fun a ha => up_n ha) | refine f_adv hF ?_ | refine f_chk hF ?_ | refine f_num hF ?_ | refine f_pw1 hF ?_ | refine f_pw2 hF ?_ | refine f_pw3 hF ?_ | refine f_pw6 hF ?_ | refine f_pw7 hF ?_ | refine ⟨fun h => absurd h (f_ne hF), fun _ => ?_⟩ | refine ⟨vp8 (by omega) (by omega), ?_⟩ | refine ⟨fun _ => ?_, fun _ => ?_⟩)
      refine g_adv g8 (fun K10 g10 => ⟨fun _ => ?_, fun h0 => absurd g10.2.1.2.2.2.2.1 h0⟩)
      rw [← e9] at g10
      have eix : (nI x * nI 8 + nI y) * nI 8 + nI z = nI (64 * x + 8 * y + z) := by
        rw [pk_mul, nI_add, pk_mul, nI_add, show (x * 8 + y) * 8 + z = 64 * x + 8 * y + z from by omega]
      rw [eix, nI_clamp (by omega)]
      refine ⟨vp_in_nI (by omega) (by decide), vp_in_nI (by omega) (by decide), hQ1 _ (lwT t (64 * x + 8 * y + z) u) p9 (by simp only [pTurn, bd_r, bd_l, h1, h2, h4, h0', if_false, h6, h3', h8, h9]) ?_⟩
      obtain ⟨f1, f2, f3, n0, n1, n2, n3, n4, n7, n8, nS, nM, nR, nF, nO, nH, nL⟩ := g10
      refine ⟨f1, f2, fun a ha h37 => by rw [up_n (by omega), up_n (by omega)]; exact f3 a ha h37, n0, n1, n2, n3, n4, n7, n8, nS, fun k hk hb => ?_, fun k hk hb => ?_, nF, nO, nH, nL⟩
      · show va_up (K10 21) _ _ k = nI (va_up (t 2) _ u k)
        by_cases he : k = 64 * x + 8 * y + z
        · rw [he, up_s, up_s]
        · rw [up_n he, up_n he]; exact nM k hk hb
      · show va_up (K10 22) _ _ k = nI (va_up (t 3) _ u k)
        by_cases he : k = 64 * x + 8 * y + z
        · rw [he, up_s, up_s]
        · rw [up_n he, up_n he]; exact nR k hk hb
theorem c_readErrand {Q : (Nat → Nat → Int32) → Prop} (hk : tok t) (hG : CGd I0 b n t p J) (hc : 1 ≤ t 0 0) (hQ1 : ∀ K t' q, pErrand b n t p = .inr (t', q) → CGd I0 b n t' q K → Q K) (hQ2 : ∀ K w s q, pErrand b n t p = .inl (w, s) → CFd I0 b n t q w s K → Q K) : C_X4_readErrand_37 e J L Q := by
  have hk2 := hk
  obtain ⟨o0, oT, oZ, oY, oD, o9, oN, o28, oB, oX, oE, oF, oA, oH, oU, oV⟩ := hk
  have hlast : ∀ {q K}, CGd I0 b n t q K → K 15 0 - nI 1 = nI (t 0 0 - 1) := fun h => by rw [h.2.2.2.1, pk_sub (by omega)]
  have e7 : J 15 7 = nI (t 0 4) := hG.2.2.2.2.2.2.2.2.1
  refine b_X4_readErrand_37 ?_
  rw [e7]
  refine ⟨fun h6 => ?_, fun h6 => ?_⟩
  · rw [nI_leI (by decide) (by omega)] at h6
    refine g_chk0 hG (by omega) (fun K hF => ?_)
    have hq := fun K2 h2' => hQ2 K2 3 _ p (by simp only [pErrand, h6, if_true]) (CF_15 hF h2')
    repeat' (first | exact hq _ (fun _ _ => rfl) | exact hq _ (fun a ha => by rw [up_n ha, up_n ha, up_n ha]) | exact hq _ (fun a ha => up_n ha) | refine f_adv hF ?_ | refine f_chk hF ?_ | refine f_num hF ?_ | refine f_pw1 hF ?_ | refine f_pw2 hF ?_ | refine f_pw3 hF ?_ | refine f_pw6 hF ?_ | refine f_pw7 hF ?_ | refine ⟨fun h => absurd h (f_ne hF), fun _ => ?_⟩ | refine ⟨vp8 (by omega) (by omega), ?_⟩ | refine ⟨fun _ => ?_, fun _ => ?_⟩)
  · rw [nI_leI (by decide) (by omega)] at h6
    refine g_chk1 ?_
    refine g_pw6 hG (fun K1 p1 h1 g1 => ?_) (fun K w s hf hF => ?_)
    rotate_left
    · have hq := fun K2 h2' => hQ2 K2 w s p (by simp only [pErrand, bd_r, bd_l, h6, if_false, hf]) (CF_15 hF h2')
      repeat' (first | exact hq _ (fun _ _ => rfl) | exact hq _ (fun a ha => by rw [up_n ha, up_n ha, up_n ha]) | exact hq _ (fun a ha => up_n ha) | refine f_adv hF ?_ | refine f_chk hF ?_ | refine f_num hF ?_ | refine f_pw1 hF ?_ | refine f_pw2 hF ?_ | refine f_pw3 hF ?_ | refine f_pw6 hF ?_ | refine f_pw7 hF ?_ | refine ⟨fun h => absurd h (f_ne hF), fun _ => ?_⟩ | refine ⟨vp8 (by omega) (by omega), ?_⟩ | refine ⟨fun _ => ?_, fun _ => ?_⟩)
    rw [hlast g1]
    refine g_num g1 (by decide) (by omega) (fun x p2 h2 e2 lo2 hi2 => ?_) (fun K w s hf hF => ?_)
    rotate_left
    · have hq := fun K2 h2' => hQ2 K2 w s p1 (by simp only [pErrand, bd_r, bd_l, h6, if_false, h1, hf]) (CF_15 hF h2')
      repeat' (first | exact hq _ (fun _ _ => rfl) | exact hq _ (fun a ha => by rw [up_n ha, up_n ha, up_n ha]) | exact hq _ (fun a ha => up_n ha) | refine f_adv hF ?_ | refine f_chk hF ?_ | refine f_num hF ?_ | refine f_pw1 hF ?_ | refine f_pw2 hF ?_ | refine f_pw3 hF ?_ | refine f_pw6 hF ?_ | refine f_pw7 hF ?_ | refine ⟨fun h => absurd h (f_ne hF), fun _ => ?_⟩ | refine ⟨vp8 (by omega) (by omega), ?_⟩ | refine ⟨fun _ => ?_, fun _ => ?_⟩)
    refine g_adv g1 (fun K3 g3 => ?_)
    rw [← e2] at g3
    refine g_num g3 (by decide) (by omega) (fun y p4 h4 e4 lo4 hi4 => ?_) (fun K w s hf hF => ?_)
    rotate_left
    · have hq := fun K2 h2' => hQ2 K2 w s p2 (by simp only [pErrand, bd_r, bd_l, h6, if_false, h1, h2, hf]) (CF_15 hF h2')
      repeat' (first | exact hq _ (fun _ _ => rfl) | exact hq _ (fun a ha => by rw [up_n ha, up_n ha, up_n ha]) | exact hq _ (fun a ha => up_n ha) | refine f_adv hF ?_ | refine f_chk hF ?_ | refine f_num hF ?_ | refine f_pw1 hF ?_ | refine f_pw2 hF ?_ | refine f_pw3 hF ?_ | refine f_pw6 hF ?_ | refine f_pw7 hF ?_ | refine ⟨fun h => absurd h (f_ne hF), fun _ => ?_⟩ | refine ⟨vp8 (by omega) (by omega), ?_⟩ | refine ⟨fun _ => ?_, fun _ => ?_⟩)
    refine ⟨fun hxy => ?_, fun hxy => ?_⟩
    · rw [nI_eq (by omega) (by omega)] at hxy
      refine g_chk0 g3 (by omega) (fun K hF => ?_)
      have hq := fun K2 h2' => hQ2 K2 2 _ p2 (by simp only [pErrand, h6, if_false, bd_r, bd_l, h1, h2, h4, hxy, if_true]) (CF_15 hF h2')
      repeat' (first | exact hq _ (fun _ _ => rfl) | exact hq _ (fun a ha => by rw [up_n ha, up_n ha, up_n ha]) | exact hq _ (fun a ha => up_n ha) | refine f_adv hF ?_ | refine f_chk hF ?_ | refine f_num hF ?_ | refine f_pw1 hF ?_ | refine f_pw2 hF ?_ | refine f_pw3 hF ?_ | refine f_pw6 hF ?_ | refine f_pw7 hF ?_ | refine ⟨fun h => absurd h (f_ne hF), fun _ => ?_⟩ | refine ⟨vp8 (by omega) (by omega), ?_⟩ | refine ⟨fun _ => ?_, fun _ => ?_⟩)
    · rw [nI_eq (by omega) (by omega)] at hxy
      refine g_chk1 (g_adv g3 (fun K5 g5 => ?_))
      rw [← e4] at g5
      refine g_pw7 g5 (fun K7 p7 h7 g7 => ?_) (fun K w s hf hF => ?_)
      rotate_left
      · have hq := fun K2 h2' => hQ2 K2 w s p4 (by simp only [pErrand, bd_r, bd_l, h6, if_false, h1, h2, h4, hxy, hf]) (CF_15 hF h2')
        repeat' (first | exact hq _ (fun _ _ => rfl) | exact hq _ (fun a ha => by rw [up_n ha, up_n ha, up_n ha]) | exact hq _ (fun a ha => up_n ha) | refine f_adv hF ?_ | refine f_chk hF ?_ | refine f_num hF ?_ | refine f_pw1 hF ?_ | refine f_pw2 hF ?_ | refine f_pw3 hF ?_ | refine f_pw6 hF ?_ | refine f_pw7 hF ?_ | refine ⟨fun h => absurd h (f_ne hF), fun _ => ?_⟩ | refine ⟨vp8 (by omega) (by omega), ?_⟩ | refine ⟨fun _ => ?_, fun _ => ?_⟩)
      refine g_num g7 (by decide) (by decide) (fun u p9 h9 e9 lo9 hi9 => ?_) (fun K w s hf hF => ?_)
      rotate_left
      · have hq := fun K2 h2' => hQ2 K2 w s p7 (by simp only [pErrand, bd_r, bd_l, h6, if_false, h1, h2, h4, hxy, h7, hf]) (CF_15 hF h2')
        repeat' (first | exact hq _ (fun _ _ => rfl) | exact hq _ (fun a ha => by rw [up_n ha, up_n ha, up_n ha]) | exact hq _ (fun a ha => up_n ha) | refine f_adv hF ?_ | refine f_chk hF ?_ | refine f_num hF ?_ | refine f_pw1 hF ?_ | refine f_pw2 hF ?_ | refine f_pw3 hF ?_ | refine f_pw6 hF ?_ | refine f_pw7 hF ?_ | refine ⟨fun h => absurd h (f_ne hF), fun _ => ?_⟩ | refine ⟨vp8 (by omega) (by omega), ?_⟩ | refine ⟨fun _ => ?_, fun _ => ?_⟩)
      refine g_adv g7 (fun K10 g10 => ⟨fun _ => ?_, fun h0 => absurd g10.2.1.2.2.2.2.1 h0⟩)
      rw [← e9] at g10
      obtain ⟨f1, f2, f3, n0, n1, n2, n3, n4, n7, n8, nS, nM, nR, nF, nO, nH, nL⟩ := g10
      rw [n7, nI_clamp (by omega), nI_add]
      refine ⟨fun h0 => ?_, fun _ => ⟨vp_in_nI (by omega) (by decide), vp_in_nI (by omega) (by decide), vp_in_nI (by omega) (by decide), hQ1 _ (edT t x y u) p9 (by simp only [pErrand, h6, if_false, bd_r, bd_l, h1, h2, h4, hxy, h7, h9]) ⟨f1, f2, fun a ha h37 => by rw [up_n (by omega), up_n (by omega), up_n (by omega), up_n (by omega)]; exact f3 a ha h37, n0, n1, n2, n3, n4, rfl, n8, nS, nM, nR, fun j hj => ?_, fun j hj => ?_, fun j hj => ?_, nL⟩⟩⟩
      · rw [nI_leI (by decide) (by omega)] at h0
        exact absurd h0 h6
      · have hj' : j < t 0 4 + 1 := hj
        show va_up (K10 23) _ _ j = nI (va_up (t 4) (t 0 4) x j)
        by_cases he : j = t 0 4
        · rw [he, up_s, up_s]
        · rw [up_n he, up_n he]; exact nF j (by omega)
      · have hj' : j < t 0 4 + 1 := hj
        show va_up (K10 24) _ _ j = nI (va_up (t 5) (t 0 4) y j)
        by_cases he : j = t 0 4
        · rw [he, up_s, up_s]
        · rw [up_n he, up_n he]; exact nO j (by omega)
      · have hj' : j < t 0 4 + 1 := hj
        show va_up (K10 25) _ _ j = nI (va_up (t 6) (t 0 4) u j)
        by_cases he : j = t 0 4
        · rw [he, up_s, up_s]
        · rw [up_n he, up_n he]; exact nH j (by omega)
end RD
