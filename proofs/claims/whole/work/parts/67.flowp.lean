/-! pure: flows over turns (an edge k from arc k / 8 to arc k % 64), what goes out of a set and into it, two greatest flows are alike -/
def flo (f : Nat → Nat) (S : Nat → Bool) (k : Nat) : Nat := if S (k / 8) = true ∧ S (k % 64) = false then f k else 0
def fli (f : Nat → Nat) (S : Nat → Bool) (k : Nat) : Nat := if S (k / 8) = false ∧ S (k % 64) = true then f k else 0
theorem sm_w {f g : Nat → Nat} {n k : Nat} (hk : k < n) (h : ∀ j, j < n → j ≠ k → g j = f j) : sm g n + f k = sm f n + g k := by
  induction n with
  | zero => omega
  | succ n ih =>
    show sm g n + g n + f k = sm f n + f n + g k
    by_cases he : k = n
    · have h1 : sm g n = sm f n := sm_c (fun j hj => h j (by omega) (by omega))
      rw [he, h1]
      omega
    · have h1 := ih (by omega) (fun j hj hn => h j (by omega) hn)
      have h2 := h n (by omega) (fun h3 => he h3.symm)
      omega
/-- a source's set and no sink's -/
def sep (st : Nat → Nat) (x g : Nat) (S : Nat → Bool) : Prop := (∀ s, rS st x s → S s = true) ∧ (∀ a, a < 64 → a % 8 = g → S a = false)
/-- a flow of worth w -/
def FL (st c : Nat → Nat) (x g : Nat) (f : Nat → Nat) (w : Nat) : Prop := (∀ k, k < 512 → f k ≤ c k) ∧ ∀ S, sep st x g S → sm (flo f S) 512 = sm (fli f S) 512 + w
/-- the same, with m pushed from arc a on to the sink -/
def FP (st c : Nat → Nat) (x g : Nat) (sn : Nat → Bool) (r f0 f : Nat → Nat) (w m a : Nat) : Prop := (∀ k, k < 512 → f k ≤ c k) ∧ (∀ S, sep st x g S → sm (flo f S) 512 = sm (fli f S) 512 + w + (if S a = true then m else 0)) ∧ (∀ k, k < 512 → sn (k / 8) = true → sn (k % 64) = true → r (k / 8) ≤ r a → r (k % 64) ≤ r a → f k = f0 k)
theorem FP_0 {st c : Nat → Nat} {x g : Nat} {sn : Nat → Bool} {r f : Nat → Nat} {w m a : Nat} (h : FL st c x g f w) (ha : a < 64) (hg : a % 8 = g) : FP st c x g sn r f f w m a := by
  refine ⟨h.1, fun S hS => ?_, fun _ _ _ _ _ _ => rfl⟩
  rw [h.2 S hS, hS.2 a ha hg]
  simp
theorem FP_e {st c : Nat → Nat} {x g : Nat} {sn : Nat → Bool} {r f0 f : Nat → Nat} {w m a : Nat} (h : FP st c x g sn r f0 f w m a) (ha : rS st x a) : FL st c x g f (w + m) := by
  refine ⟨h.1, fun S hS => ?_⟩
  rw [h.2.1 S hS, if_pos (hS.1 a ha)]
  omega
theorem FP_on {st c : Nat → Nat} {x g : Nat} {sn : Nat → Bool} {r f0 f : Nat → Nat} {w m a b k : Nat} (h : FP st c x g sn r f0 f w m a) (hk : k < 512) (hb : k / 8 = b) (ha : k % 64 = a) (hsa : sn a = true) (hsb : sn b = true) (hr : r b < r a) (hm : f0 k + m ≤ c k) : f k = f0 k ∧ FP st c x g sn r f0 (va_up f k (f k + m)) w m b := by
  have hfk : f k = f0 k := h.2.2 k hk (by rw [hb]; exact hsb) (by rw [ha]; exact hsa) (by rw [hb]; omega) (by rw [ha]; omega)
  refine ⟨hfk, fun j hj => ?_, fun S hS => ?_, fun j hj h1 h2 h3 h4 => ?_⟩
  · by_cases he : j = k
    · rw [he, up_s]; omega
    · rw [up_n he]; exact h.1 j hj
  · have h1 := h.2.1 S hS
    have h2 := sm_w (f := flo f S) (g := flo (va_up f k (f k + m)) S) hk (fun j hj hn => by unfold flo; rw [up_n hn])
    have h3 := sm_w (f := fli f S) (g := fli (va_up f k (f k + m)) S) hk (fun j hj hn => by unfold fli; rw [up_n hn])
    have e1 : flo f S k = if S b = true ∧ S a = false then f k else 0 := by unfold flo; rw [hb, ha]
    have e2 : flo (va_up f k (f k + m)) S k = if S b = true ∧ S a = false then f k + m else 0 := by unfold flo; rw [hb, ha, up_s]
    have e3 : fli f S k = if S b = false ∧ S a = true then f k else 0 := by unfold fli; rw [hb, ha]
    have e4 : fli (va_up f k (f k + m)) S k = if S b = false ∧ S a = true then f k + m else 0 := by unfold fli; rw [hb, ha, up_s]
    rw [e1, e2] at h2
    rw [e3, e4] at h3
    cases hA : S a <;> cases hB : S b <;> simp [hA, hB] at h1 h2 h3 ⊢ <;> omega
  · have hne : j ≠ k := fun he => by rw [he, ha] at h4; omega
    rw [up_n hne]
    exact h.2.2 j hj h1 h2 (by omega) (by omega)
theorem FP_bk {st c : Nat → Nat} {x g : Nat} {sn : Nat → Bool} {r f0 f : Nat → Nat} {w m a b k : Nat} (h : FP st c x g sn r f0 f w m a) (hk : k < 512) (ha : k / 8 = a) (hb : k % 64 = b) (hsa : sn a = true) (hsb : sn b = true) (hr : r b < r a) (hm : m ≤ f0 k) : f k = f0 k ∧ FP st c x g sn r f0 (va_up f k (f k - m)) w m b := by
  have hfk : f k = f0 k := h.2.2 k hk (by rw [ha]; exact hsa) (by rw [hb]; exact hsb) (by rw [ha]; omega) (by rw [hb]; omega)
  refine ⟨hfk, fun j hj => ?_, fun S hS => ?_, fun j hj h1 h2 h3 h4 => ?_⟩
  · by_cases he : j = k
    · rw [he, up_s]
      have := h.1 k hk
      omega
    · rw [up_n he]; exact h.1 j hj
  · have h1 := h.2.1 S hS
    have h2 := sm_w (f := flo f S) (g := flo (va_up f k (f k - m)) S) hk (fun j hj hn => by unfold flo; rw [up_n hn])
    have h3 := sm_w (f := fli f S) (g := fli (va_up f k (f k - m)) S) hk (fun j hj hn => by unfold fli; rw [up_n hn])
    have e1 : flo f S k = if S a = true ∧ S b = false then f k else 0 := by unfold flo; rw [hb, ha]
    have e2 : flo (va_up f k (f k - m)) S k = if S a = true ∧ S b = false then f k - m else 0 := by unfold flo; rw [hb, ha, up_s]
    have e3 : fli f S k = if S a = false ∧ S b = true then f k else 0 := by unfold fli; rw [hb, ha]
    have e4 : fli (va_up f k (f k - m)) S k = if S a = false ∧ S b = true then f k - m else 0 := by unfold fli; rw [hb, ha, up_s]
    rw [e1, e2] at h2
    rw [e3, e4] at h3
    rw [← hfk] at hm
    cases hA : S a <;> cases hB : S b <;> simp [hA, hB] at h1 h2 h3 ⊢ <;> omega
  · have hne : j ≠ k := fun he => by rw [he, ha] at h3; omega
    rw [up_n hne]
    exact h.2.2 j hj h1 h2 (by omega) (by omega)
/-- the flow 0 -/
theorem sm_z {f : Nat → Nat} {n : Nat} (h : ∀ k, k < n → f k = 0) : sm f n = 0 := by
  induction n with
  | zero => rfl
  | succ n ih =>
    show sm f n + f n = 0
    rw [ih (fun k hk => h k (by omega)), h n (by omega)]
theorem FL_0 {st c : Nat → Nat} {x g : Nat} {f : Nat → Nat} (h : ∀ k, k < 512 → f k = 0) : FL st c x g f 0 := by
  refine ⟨fun k hk => by rw [h k hk]; exact Nat.zero_le _, fun S _ => ?_⟩
  rw [sm_z (fun k hk => by unfold flo; rw [h k hk]; split <;> rfl), sm_z (fun k hk => by unfold fli; rw [h k hk]; split <;> rfl)]
theorem FL_lt {st c : Nat → Nat} {x g : Nat} {f : Nat → Nat} {w : Nat} (h : FL st c x g f w) (h9 : ∀ k, k < 512 → c k ≤ 9) (hx : x < 8) (hg : g < 8) (hs : st (8 * x + g) = 0) : w < 4608 := by
  have h1 := h.2 (fun a => decide (0 < st a) && decide (a / 8 = x)) ⟨fun s hs => by
    show (decide (0 < st s) && decide (s / 8 = x)) = true
    rw [decide_eq_true hs.2.2, decide_eq_true hs.2.1]; rfl, fun a ha hg => by
    show (decide (0 < st a) && decide (a / 8 = x)) = false
    by_cases h1 : a / 8 = x
    · rw [show a = 8 * x + g from by omega, hs]
      rfl
    · rw [decide_eq_false h1, Bool.and_false]⟩
  have h2 : sm (flo f (fun a => decide (0 < st a) && decide (a / 8 = x))) 512 < sm (fun _ => 9) 512 := by
    refine sm_lt (k0 := 0) (fun k hk => ?_) (by decide) ?_
    · unfold flo
      have := h.1 k hk
      have := h9 k hk
      split <;> omega
    · unfold flo
      rw [if_neg ?_]
      · decide
      · intro h3
        rw [show (0 : Nat) / 8 = 0 from rfl, show (0 : Nat) % 64 = 0 from rfl] at h3
        rw [h3.2] at h3
        cases h3.1
  have h3 := sm_bd (f := fun _ => 9) (n := 512) (B := 9) (fun _ _ => Nat.le_refl _)
  omega
/-- what can be come to in what is left of a flow -/
def rF (c f : Nat → Nat) (a b : Nat) : Prop := a < 64 ∧ b < 64 ∧ ((a % 8 = b / 8 ∧ f (8 * a + b % 8) < c (8 * a + b % 8)) ∨ (b % 8 = a / 8 ∧ 0 < f (8 * b + a % 8)))
/-- no way is left -/
def GF (st c : Nat → Nat) (x g : Nat) (f : Nat → Nat) (w : Nat) : Prop := FL st c x g f w ∧ ∀ a, a < 64 → RC (rS st x) (rF c f) a → a % 8 ≠ g
noncomputable def rSet (st c : Nat → Nat) (x : Nat) (f : Nat → Nat) (a : Nat) : Bool := @decide (RC (rS st x) (rF c f) a) (Classical.propDecidable _)
theorem rSet_i {st c : Nat → Nat} {x a : Nat} {f : Nat → Nat} : rSet st c x f a = true ↔ RC (rS st x) (rF c f) a := by
  unfold rSet
  exact @decide_eq_true_iff _ (Classical.propDecidable _)
theorem rSet_sep {st c : Nat → Nat} {x g w : Nat} {f : Nat → Nat} (h : GF st c x g f w) : sep st x g (rSet st c x f) := by
  refine ⟨fun s hs => rSet_i.mpr (RC_0 hs), fun a ha hg => ?_⟩
  cases hr : rSet st c x f a with
  | false => rfl
  | true => exact absurd hg (h.2 a ha (rSet_i.mp hr))
theorem sm_eq {f g : Nat → Nat} {n : Nat} (h : ∀ k, k < n → f k ≤ g k) (he : sm g n ≤ sm f n) : ∀ k, k < n → f k = g k := by
  intro k hk
  rcases Nat.lt_or_ge (f k) (g k) with h1 | h1
  · have := sm_lt h hk h1
    omega
  · have := h k hk
    omega
/-- the edges of the last search's set are full outward, empty inward -/
theorem GF_w {st c : Nat → Nat} {x g w : Nat} {f : Nat → Nat} (h : GF st c x g f w) : w = sm (flo c (rSet st c x f)) 512 := by
  have h1 := h.1.2 _ (rSet_sep h)
  have h2 : sm (flo f (rSet st c x f)) 512 = sm (flo c (rSet st c x f)) 512 := by
    refine sm_c (fun k hk => ?_)
    unfold flo
    split
    · rename_i h3
      have h4 := h.1.1 k hk
      rcases Nat.lt_or_ge (f k) (c k) with h5 | h5
      · have h6 : RC (rS st x) (rF c f) (k % 64) := RC_1 (rSet_i.mp h3.1) ⟨by omega, by omega, Or.inl ⟨by omega, by rw [show 8 * (k / 8) + k % 64 % 8 = k from by omega]; exact h5⟩⟩
        rw [rSet_i.mpr h6] at h3
        cases h3.2
      · omega
    · rfl
  have h3 : sm (fli f (rSet st c x f)) 512 = 0 := by
    refine sm_z (fun k hk => ?_)
    unfold fli
    split
    · rename_i h3
      rcases Nat.eq_zero_or_pos (f k) with h5 | h5
      · exact h5
      · have h6 : RC (rS st x) (rF c f) (k / 8) := RC_1 (rSet_i.mp h3.2) ⟨by omega, by omega, Or.inr ⟨by omega, by rw [show 8 * (k / 8) + k % 64 % 8 = k from by omega]; exact h5⟩⟩
        rw [rSet_i.mpr h6] at h3
        cases h3.1
    · rfl
  omega
theorem flo_le {f c : Nat → Nat} {S : Nat → Bool} (h : ∀ k, k < 512 → f k ≤ c k) : ∀ k, k < 512 → flo f S k ≤ flo c S k := by
  intro k hk
  unfold flo
  split
  · exact h k hk
  · exact Nat.le_refl _
theorem GF_le {st c : Nat → Nat} {x g w w' : Nat} {f f' : Nat → Nat} (h : GF st c x g f w) (h' : GF st c x g f' w') : w' ≤ w := by
  have h1 := h'.1.2 _ (rSet_sep h)
  have h2 := sm_le (flo_le (S := rSet st c x f) h'.1.1)
  have h3 := GF_w h
  omega
theorem GF_eq {st c : Nat → Nat} {x g w w' : Nat} {f f' : Nat → Nat} (h : GF st c x g f w) (h' : GF st c x g f' w') : w = w' := Nat.le_antisymm (GF_le h' h) (GF_le h h')
theorem GF_sub {st c : Nat → Nat} {x g w w' : Nat} {f f' : Nat → Nat} (h : GF st c x g f w) (h' : GF st c x g f' w') {a : Nat} (ha : RC (rS st x) (rF c f') a) : RC (rS st x) (rF c f) a := by
  have h0 := GF_eq h h'
  have h1 := h'.1.2 _ (rSet_sep h)
  have hl := flo_le (S := rSet st c x f) h'.1.1
  have h2 := sm_le hl
  have h3 := GF_w h
  have h4 := sm_eq hl (by omega)
  have h5 := sm_eq (f := fun _ => 0) (g := fli f' (rSet st c x f)) (n := 512) (fun _ _ => Nat.zero_le _) (by rw [sm_z (f := fun _ => 0) (fun _ _ => rfl)]; omega)
  refine ha (RC (rS st x) (rF c f)) (fun s hs => RC_0 hs) (fun p b hp he => ?_)
  apply Classical.byContradiction
  intro hb
  have sp := rSet_i.mpr hp
  have sb : rSet st c x f b = false := by
    cases hr : rSet st c x f b with
    | false => rfl
    | true => exact absurd (rSet_i.mp hr) hb
  obtain ⟨g1, g2, ⟨g3, g4⟩ | ⟨g3, g4⟩⟩ := he
  · have h6 := h4 (8 * p + b % 8) (by omega)
    unfold flo at h6
    rw [show (8 * p + b % 8) / 8 = p from by omega, show (8 * p + b % 8) % 64 = b from by omega, if_pos ⟨sp, sb⟩, if_pos ⟨sp, sb⟩] at h6
    omega
  · have h6 := h5 (8 * b + p % 8) (by omega)
    unfold fli at h6
    rw [show (8 * b + p % 8) / 8 = b from by omega, show (8 * b + p % 8) % 64 = p from by omega, if_pos ⟨sb, sp⟩] at h6
    omega
theorem GF_set {st c : Nat → Nat} {x g w w' : Nat} {f f' : Nat → Nat} (h : GF st c x g f w) (h' : GF st c x g f' w') {a : Nat} : RC (rS st x) (rF c f') a ↔ RC (rS st x) (rF c f) a := ⟨GF_sub h h', GF_sub h' h⟩
