/-! what holds between calls; calls that change the town: take, give, undo -/
/-- rows of longs that no later call reads: 70 the stranger's, 73 the reference's word, 77 -/
def frL (L M : Nat → Nat → Int64) : Prop := ∀ a, a ≠ 70 → a ≠ 73 → a ≠ 77 → M a = L a
/-- the tapes: the class's reader (37) has how much is taped, the fault and its place -/
def TP (I : Nat → Nat → Int32) : Prop := ∃ tp, tp ≤ 1600 ∧ I 37 2 = nI tp ∧ I 73 6 = nI tp ∧ (∀ k, k < 1600 → I 1 k = I 78 k) ∧ I 37 6 = I 73 14 ∧ I 37 7 = I 73 15
/-- an image: none, or a town of its own in both -/
def IMk (k : Nat) (b : Option Nat) (n : Nat) (I : Nat → Nat → Int32) : Prop := match b with
  | none => I 86 k = nI 0
  | some b => I 86 k = nI 1 ∧ (b = 97 ∨ b = 109 ∨ b = 121) ∧ b + 12 ≤ n ∧ ∃ t, tok t ∧ CTb b t I ∧ MTw (1 + k) t I
def IM (e : am_V) (I : Nat → Nat → Int32) : Prop := (∀ k, k < 3 → IMk k (am_im e.1 k) e.2.2 I) ∧ (∀ k k' b, k < 3 → k' < 3 → am_im e.1 k = some b → am_im e.1 k' = some b → k = k') ∧ (e.2.2 = 97 ∨ e.2.2 = 109 ∨ e.2.2 = 121 ∨ e.2.2 = 133) ∧ e.2.2 = 97 + 12 * ((if (am_im e.1 0).isSome then 1 else 0) + (if (am_im e.1 1).isSome then 1 else 0) + (if (am_im e.1 2).isSome then 1 else 0))
/-- the orders that were tried, if they still are the town's: B says what they are -/
def OC (B : tw → Nat × Nat × (Nat → Nat)) (t : tw) (I : Nat → Nat → Int32) (m : Nat) : Prop := ∃ c, c ≤ m ∧ I 0 12 = nI c ∧ (I 0 13 = (-1 : Int32) ∨ ∃ c', c' ≤ c ∧ I 0 13 = nI c') ∧ (I 0 13 = I 0 12 → I 51 4 = nI (B t).1 ∧ I 51 5 = nI (B t).2.1 ∧ ∀ j, j < t 0 4 → I 61 j = nI ((B t).2.2 j))
def Rel (B : tw → Nat × Nat × (Nat → Nat)) (e : am_V) (t : tw) (I : Nat → Nat → Int32) (L : Nat → Nat → Int64) (m : Nat) : Prop := tok t ∧ CT t I ∧ MT t I ∧ TP I ∧ SL I L ∧ IM e I ∧ OC B t I m
theorem TP_c {I J : Nat → Nat → Int32} (h : TP I) (h37 : J 37 = I 37) (h1 : J 1 = I 1) (h78 : J 78 = I 78) (a : J 73 6 = I 73 6) (b : J 73 14 = I 73 14) (c : J 73 15 = I 73 15) : TP J := by
  unfold TP at h ⊢
  rw [h37, h1, h78, a, b, c]
  exact h
theorem SL_c {I J : Nat → Nat → Int32} {L M : Nat → Nat → Int64} (h : SL I L) (h1 : ∀ s, s < 4 → J (29 + 2 * s) = I (29 + 2 * s)) (h74 : J 74 = I 74) (h75 : J 75 = I 75) (hL : frL L M) : SL J M := by
  intro s hs
  have h2 := h s hs
  unfold SLs at h2 ⊢
  rw [h1 s hs, h74, h75, hL (30 + 2 * s) (by omega) (by omega) (by omega), hL 76 (by decide) (by decide) (by decide)]
  exact h2
theorem IMk_c {k n : Nat} {b : Option Nat} {I J : Nat → Nat → Int32} (hk : k < 3) (h : IMk k b n I) (h86 : J 86 k = I 86 k) (hb : ∀ a, 97 ≤ a → J a = I a) (hm : ∀ a, 79 ≤ a → a ≤ 85 → J a = I a) : IMk k b n J := by
  cases b with
  | none => exact h86.trans h
  | some b =>
    obtain ⟨h1, h2, h3, t, h4, h5, h6⟩ := h
    exact ⟨h86.trans h1, h2, h3, t, h4, CTb_c (fun a h7 h8 => hb a (by omega)) h5, MTw_c hm h6⟩
theorem IM_c {e : am_V} {I J : Nat → Nat → Int32} (h : IM e I) (h86 : J 86 = I 86) (hb : ∀ a, 97 ≤ a → J a = I a) (hm : ∀ a, 79 ≤ a → a ≤ 85 → J a = I a) : IM e J := ⟨fun k hk => IMk_c hk (h.1 k hk) (by rw [h86]) hb hm, h.2⟩
theorem OC_c {B : tw → Nat × Nat × (Nat → Nat)} {t : tw} {I J : Nat → Nat → Int32} {m m' : Nat} (h : OC B t I m) (h0 : J 0 = I 0) (h51 : J 51 = I 51) (h61 : J 61 = I 61) (hm : m ≤ m') : OC B t J m' := by
  obtain ⟨c, hc, h1⟩ := h
  rw [← h0, ← h51, ← h61] at h1
  exact ⟨c, by omega, h1⟩
theorem SC_97 {a : Nat} (h : 97 ≤ a) : a ∉ SC := by
  intro hm
  have : SC.all (fun a => decide (a < 97)) = true := by decide
  have h2 := List.all_eq_true.mp this a hm
  have := of_decide_eq_true h2
  omega
/-- a call that only reads -/
theorem Rel_q {B : tw → Nat × Nat × (Nat → Nat)} {e : am_V} {t : tw} {I J : Nat → Nat → Int32} {L M : Nat → Nat → Int64} {m m' : Nat} (h : Rel B e t I L m) (f : fr SC FC I J) (fL : frL L M) (hm : m ≤ m') : Rel B e t J M m' := by
  obtain ⟨h1, h2, h3, h4, h5, h6, h7⟩ := h
  have g : ∀ a, SC.contains a = false → a ≠ 73 → J a = I a := fun a ha h9 => f.1 a (fun hm => by rw [List.contains_iff_mem.mpr hm] at ha; cases ha) h9
  refine ⟨h1, fr_CT f h2 rfl, fr_MT f h3 rfl, TP_c h4 (g 37 rfl (by decide)) (g 1 rfl (by decide)) (g 78 rfl (by decide)) (f.2 6 (by decide)) (f.2 14 (by decide)) (f.2 15 (by decide)), SL_c h5 (fun s hs => ?_) (g 74 rfl (by decide)) (g 75 rfl (by decide)) fL, IM_c h6 (g 86 rfl (by decide)) (fun a ha => f.1 a (SC_97 ha) (by omega)) (fun a h7 h8 => ?_), OC_c h7 (g 0 rfl (by decide)) (g 51 rfl (by decide)) (g 61 rfl (by decide)) hm⟩
  · have : s = 0 ∨ s = 1 ∨ s = 2 ∨ s = 3 := by omega
    rcases this with rfl | rfl | rfl | rfl
    · exact g 29 rfl (by decide)
    · exact g 31 rfl (by decide)
    · exact g 33 rfl (by decide)
    · exact g 35 rfl (by decide)
  · have : a = 79 ∨ a = 80 ∨ a = 81 ∨ a = 82 ∨ a = 83 ∨ a = 84 ∨ a = 85 := by omega
    rcases this with rfl | rfl | rfl | rfl | rfl | rfl | rfl <;> exact g _ rfl (by decide)
theorem frL_r (L : Nat → Nat → Int64) : frL L L := fun _ _ _ _ => rfl
/-- one more change -/
theorem OC_up {B : tw → Nat × Nat × (Nat → Nat)} {t t' : tw} {I J : Nat → Nat → Int32} {m : Nat} (h : OC B t I m) (hm : m < 1000000) (h17 : J 0 12 = I 0 12 + nI 1) (h18 : J 0 13 = I 0 13) : OC B t' J (m + 1) := by
  obtain ⟨c, hc, e1, e2, e3⟩ := h
  refine ⟨c + 1, by omega, by rw [h17, e1, nI_add], ?_, ?_⟩
  · rw [h18]
    rcases e2 with h | ⟨c', h1, h2⟩
    · exact Or.inl h
    · exact Or.inr ⟨c', by omega, h2⟩
  · intro he
    rw [h18, h17, e1, nI_add] at he
    rcases e2 with h | ⟨c', h1, h2⟩
    · rw [h] at he
      have := km1 (n := c + 1) (by omega)
      have he2 := he.symm
      rw [this] at he2
      exact he2.elim
    · rw [h2, keq (by omega) (by omega)] at he
      omega
/-- images, in a world where rows of the town 0 alone change -/
theorem MTw_p {w : Nat} {t : tw} {I J : Nat → Nat → Int32} (hw : 1 ≤ w) (h79 : ∀ k, 1 ≤ k → J 79 k = I 79 k) (h80 : ∀ k, 5 ≤ k → J 80 k = I 80 k) (h81 : ∀ k, 64 ≤ k → J 81 k = I 81 k) (h82 : ∀ k, 512 ≤ k → J 82 k = I 82 k) (h83 : ∀ k, 512 ≤ k → J 83 k = I 83 k) (h84 : ∀ k, 18 ≤ k → J 84 k = I 84 k) (h85 : ∀ k, 120 ≤ k → J 85 k = I 85 k) (h : MTw w t I) : MTw w t J := by
  obtain ⟨a1, a2, a3, a4, a5, a6, a7, a8, a9, b1, b2, b3, b4, b5⟩ := h
  refine ⟨?_, ?_, ?_, ?_, ?_, ?_, fun k hk => ?_, fun k hk => ?_, fun k hk => ?_, fun k hk => ?_, fun k hk => ?_, fun k hk => ?_, fun k hk => ?_, fun k hk => ?_⟩
  · rw [h79 _ hw]; exact a1
  · rw [h80 _ (by omega)]; exact a2
  · rw [h80 _ (by omega)]; exact a3
  · rw [h80 _ (by omega)]; exact a4
  · rw [h80 _ (by omega)]; exact a5
  · rw [h80 _ (by omega)]; exact a6
  · rw [h81 _ (by omega)]; exact a7 k hk
  · rw [h82 _ (by omega)]; exact a8 k hk
  · rw [h83 _ (by omega)]; exact a9 k hk
  · rw [h84 _ (by omega)]; exact b1 k hk
  · rw [h84 _ (by omega)]; exact b2 k hk
  · rw [h84 _ (by omega)]; exact b3 k hk
  · rw [h85 _ (by omega)]; exact b4 k hk
  · rw [h85 _ (by omega)]; exact b5 k hk
theorem IM_p {e : am_V} {I J : Nat → Nat → Int32} (h : IM e I) (h86 : J 86 = I 86) (hb : ∀ a, 97 ≤ a → J a = I a) (h79 : ∀ k, 1 ≤ k → J 79 k = I 79 k) (h80 : ∀ k, 5 ≤ k → J 80 k = I 80 k) (h81 : ∀ k, 64 ≤ k → J 81 k = I 81 k) (h82 : ∀ k, 512 ≤ k → J 82 k = I 82 k) (h83 : ∀ k, 512 ≤ k → J 83 k = I 83 k) (h84 : ∀ k, 18 ≤ k → J 84 k = I 84 k) (h85 : ∀ k, 120 ≤ k → J 85 k = I 85 k) : IM e J := by
  refine ⟨fun k hk => ?_, h.2⟩
  have h1 := h.1 k hk
  cases hi : am_im e.1 k with
  | none =>
    rw [hi] at h1
    show J 86 k = nI 0
    rw [h86]
    exact h1
  | some b =>
    rw [hi] at h1
    obtain ⟨g1, g2, g3, t, g4, g5, g6⟩ := h1
    exact ⟨by rw [h86]; exact g1, g2, g3, t, g4, CTb_c (fun a h7 h8 => hb a (by omega)) g5, MTw_p (by omega) h79 h80 h81 h82 h83 h84 h85 g6⟩
