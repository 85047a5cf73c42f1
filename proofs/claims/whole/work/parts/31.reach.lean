/-! what can be come to: sets that are closed, searches in breadth, bits -/
/-- what can be come to from S by E -/
def RC (S : Nat → Prop) (E : Nat → Nat → Prop) (a : Nat) : Prop := ∀ P : Nat → Prop, (∀ s, S s → P s) → (∀ a b, P a → E a b → P b) → P a
theorem RC_0 {S : Nat → Prop} {E : Nat → Nat → Prop} {s : Nat} (h : S s) : RC S E s := fun _ h0 _ => h0 s h
theorem RC_1 {S : Nat → Prop} {E : Nat → Nat → Prop} {a b : Nat} (h : RC S E a) (he : E a b) : RC S E b := fun P h0 h1 => h1 a b (h P h0 h1) he
/-- the state of a search: which arcs are seen, the queue, its size; k: those that are gone through -/
def bfs (S : Nat → Prop) (E : Nat → Nat → Prop) (sn : Nat → Bool) (q : Nat → Nat) (z : Nat) : Prop := z = cn sn 64 ∧ (∀ i, i < z → q i < 64 ∧ sn (q i) = true) ∧ (∀ a, a < 64 → sn a = true → ∃ i, i < z ∧ q i = a) ∧ (∀ a, a < 64 → sn a = true → RC S E a)
theorem cn_t : ∀ n, cn (fun _ => true) n = n := by
  intro n
  induction n with
  | zero => rfl
  | succ n ih =>
    show cn (fun _ => true) n + 1 = n + 1
    rw [ih]
theorem cn_u {p : Nat → Bool} {n a : Nat} (ha : a < n) (hp : p a = false) : cn (va_up p a true) n = cn p n + 1 := by
  induction n with
  | zero => omega
  | succ n ih =>
    show cn (va_up p a true) n + (if va_up p a true n = true then 1 else 0) = cn p n + (if p n = true then 1 else 0) + 1
    by_cases he : a = n
    · subst he
      have h1 : cn (va_up p a true) a = cn p a := by
        have key : ∀ m, m ≤ a → cn (va_up p a true) m = cn p m := by
          intro m
          induction m with
          | zero => intro _; rfl
          | succ m ih2 =>
            intro hm
            show cn (va_up p a true) m + (if va_up p a true m = true then 1 else 0) = cn p m + (if p m = true then 1 else 0)
            rw [ih2 (by omega), up_n (show m ≠ a from by omega)]
        exact key a (Nat.le_refl _)
      rw [h1, up_s, hp]
      simp
    · rw [ih (by omega), up_n (show n ≠ a from fun h => he h.symm)]
      omega
theorem bfs_0 (S : Nat → Prop) (E : Nat → Nat → Prop) (q : Nat → Nat) : bfs S E (fun _ => false) q 0 := by
  refine ⟨(cn_z (fun _ _ => rfl)).symm, fun i h => absurd h (Nat.not_lt_zero _), fun a _ h => ?_, fun a _ h => ?_⟩
  · cases h
  · cases h
theorem bfs_lt {S : Nat → Prop} {E : Nat → Nat → Prop} {sn : Nat → Bool} {q : Nat → Nat} {z a : Nat} (h : bfs S E sn q z) (ha : a < 64) (hn : sn a = false) : z < 64 := by
  have := cn_lt (p := sn) (q := fun _ => true) (n := 64) (k0 := a) (fun _ _ _ => rfl) ha hn rfl
  rw [cn_t] at this
  rw [h.1]
  exact this
theorem bfs_le {S : Nat → Prop} {E : Nat → Nat → Prop} {sn : Nat → Bool} {q : Nat → Nat} {z : Nat} (h : bfs S E sn q z) : z ≤ 64 := by
  rw [h.1]
  exact cn_n _ _
theorem bfs_u {S : Nat → Prop} {E : Nat → Nat → Prop} {sn : Nat → Bool} {q : Nat → Nat} {z a : Nat} (h : bfs S E sn q z) (ha : a < 64) (hn : sn a = false) (hr : RC S E a) : bfs S E (va_up sn a true) (va_up q z a) (z + 1) := by
  obtain ⟨h1, h2, h3, h4⟩ := h
  refine ⟨by rw [cn_u ha hn, h1], fun i hi => ?_, fun b hb hs => ?_, fun b hb hs => ?_⟩
  · by_cases he : i = z
    · rw [he, up_s, up_s]; exact ⟨ha, rfl⟩
    · rw [up_n he]
      have h5 := h2 i (by omega)
      refine ⟨h5.1, ?_⟩
      by_cases hq : q i = a
      · rw [hq, up_s]
      · rw [up_n hq]; exact h5.2
  · by_cases hq : b = a
    · exact ⟨z, by omega, by rw [up_s, hq]⟩
    · rw [up_n hq] at hs
      obtain ⟨i, hi, hqi⟩ := h3 b hb hs
      exact ⟨i, by omega, by rw [up_n (show i ≠ z from by omega)]; exact hqi⟩
  · by_cases hq : b = a
    · rw [hq]; exact hr
    · rw [up_n hq] at hs
      exact h4 b hb hs
/-- those gone through are closed -/
def bfC (E : Nat → Nat → Prop) (sn : Nat → Bool) (q : Nat → Nat) (k : Nat) : Prop := ∀ i, i < k → ∀ b, E (q i) b → sn b = true
theorem bfs_e {S : Nat → Prop} {E : Nat → Nat → Prop} {sn : Nat → Bool} {q : Nat → Nat} {z : Nat} (h : bfs S E sn q z) (hE : ∀ a b, E a b → a < 64 ∧ b < 64) (hS : ∀ s, S s → s < 64 ∧ sn s = true) (hc : bfC E sn q z) {a : Nat} (ha : a < 64) : sn a = true ↔ RC S E a := by
  obtain ⟨h1, h2, h3, h4⟩ := h
  refine ⟨h4 a ha, fun hr => ?_⟩
  have := hr (fun a => a < 64 ∧ sn a = true) hS (fun a b hp he => ?_)
  · exact this.2
  · obtain ⟨i, hi, hq⟩ := h3 a hp.1 hp.2
    exact ⟨(hE a b he).2, hc i hi b (by rw [hq]; exact he)⟩
/-- bits of a set of crossings -/
def bts (p : Nat → Bool) : Nat → Nat := acc (fun y b => b ||| (if p y = true then 2 ^ y else 0)) 0
theorem bts_s (p : Nat → Bool) (k : Nat) : bts p (k + 1) = bts p k ||| (if p k = true then 2 ^ k else 0) := rfl
theorem bts_t (p : Nat → Bool) (n : Nat) : ∀ y, (bts p n).testBit y = (decide (y < n) && p y) := by
  induction n with
  | zero =>
    intro y
    show (0 : Nat).testBit y = _
    rw [Nat.zero_testBit]
    simp
  | succ n ih =>
    intro y
    rw [bts_s, Nat.testBit_or, ih]
    by_cases hp : p n = true
    · rw [if_pos hp, Nat.testBit_two_pow]
      by_cases he : n = y
      · subst he; simp [hp]
      · have h1 : decide (y < n + 1) = decide (y < n) := by
          by_cases h2 : y < n
          · rw [decide_eq_true h2, decide_eq_true (show y < n + 1 from by omega)]
          · rw [decide_eq_false h2, decide_eq_false (show ¬ y < n + 1 from by omega)]
        rw [h1, decide_eq_false he, Bool.or_false]
    · rw [if_neg hp, Nat.zero_testBit, Bool.or_false]
      by_cases he : y = n
      · subst he
        have : p y = false := by simpa using hp
        rw [this]; simp
      · have h1 : decide (y < n + 1) = decide (y < n) := by
          by_cases h2 : y < n
          · rw [decide_eq_true h2, decide_eq_true (show y < n + 1 from by omega)]
          · rw [decide_eq_false h2, decide_eq_false (show ¬ y < n + 1 from by omega)]
        rw [h1]
theorem bts_u {p : Nat → Bool} {n b : Nat} (h : ∀ y, b.testBit y = (decide (y < n) && p y)) : b = bts p n := by
  apply Nat.eq_of_testBit_eq
  intro y
  rw [h, bts_t]
theorem bts_b (p : Nat → Bool) (n : Nat) : bts p n < 2 ^ n := by
  apply Nat.lt_pow_two_of_testBit
  intro i hi
  rw [bts_t, decide_eq_false (by omega), Bool.false_and]
theorem ksh : ∀ y, y < 8 → nI 1 <<< (nI y &&& 31) = nI (2 ^ y) := by decide
/-- by how many streets and turns with a use one can come from x to y -/
def rS (st : Nat → Nat) (x s : Nat) : Prop := s < 64 ∧ s / 8 = x ∧ 0 < st s
def rE (st nw : Nat → Nat) (a b : Nat) : Prop := a < 64 ∧ b < 64 ∧ a % 8 = b / 8 ∧ 0 < st a ∧ 0 < st b ∧ 0 < nw (8 * a + b % 8)
noncomputable def rch (st nw : Nat → Nat) (x y : Nat) : Bool := @decide (y = x ∨ ∃ a, a < 64 ∧ RC (rS st x) (rE st nw) a ∧ a % 8 = y) (Classical.propDecidable _)
theorem rch_i {st nw : Nat → Nat} {x y : Nat} : rch st nw x y = true ↔ (y = x ∨ ∃ a, a < 64 ∧ RC (rS st x) (rE st nw) a ∧ a % 8 = y) := by
  unfold rch
  rw [@decide_eq_true_eq _ (Classical.propDecidable _)]
theorem wC_r {st nw : Nat → Nat} {x g : Nat} (hk : stok st (tcf nw 0)) (hx : x < 8) (hg : g < 8) : wC st (tcf nw 0) g x < 100000000 ↔ rch st nw x g = true := by
  rw [rch_i]
  by_cases hxg : x = g
  · have e1 : wC st (tcf nw 0) g x = 0 := if_pos hxg
    rw [e1]
    exact ⟨fun _ => Or.inl hxg.symm, fun _ => by decide⟩
  · have e1 : wC st (tcf nw 0) g x = (wB st (wD st (tcf nw 0) g) x 8).1 := if_neg hxg
    rw [e1]
    have hD := wD_is st (tcf nw 0) g
    generalize wD st (tcf nw 0) g = D at hD
    obtain ⟨w1, w2, w3⟩ := wB_sp st D x 8
    constructor
    · intro hf
      obtain ⟨v1, v2, v3⟩ := w3 hf
      refine Or.inr ?_
      have key : ∀ v a, a < 64 → 0 < st a → D a = v → v < 100000000 → RC (rS st x) (rE st nw) a → ∃ c, c < 64 ∧ RC (rS st x) (rE st nw) c ∧ c % 8 = g := by
        intro v
        induction v using Nat.strongRecOn with
        | ind v ih =>
          intro a ha hs hv hfa hr
          by_cases hgg : a % 8 = g
          · exact ⟨a, ha, hr, hgg⟩
          · obtain ⟨n1, n2, n3, n4, n5⟩ := nxt_sp hD ha hs (by omega) hgg
            refine ih _ (by omega) (8 * (a % 8) + nxt st (tcf nw 0) D a) (by omega) n2 rfl (by omega) (RC_1 hr ⟨ha, by omega, by omega, hs, n2, ?_⟩)
            rw [show (8 * (a % 8) + nxt st (tcf nw 0) D a) % 8 = nxt st (tcf nw 0) D a from by omega]
            generalize nxt st (tcf nw 0) D a = zz at n4
            unfold sC tcf at n4
            by_cases h0 : 0 < nw (8 * a + zz)
            · exact h0
            · rw [if_neg h0, if_neg (by decide)] at n4
              omega
      exact key _ (8 * x + (wB st D x 8).2) (by omega) v2 rfl (by omega) (RC_0 ⟨by omega, by omega, v2⟩)
    · rintro (h | ⟨c, hc, hr, hcg⟩)
      · exact absurd h.symm hxg
      · have h1 := hr (fun a => a < 64 ∧ 0 < st a ∧ (D a < 100000000 → ∃ s, rS st x s ∧ D s < 100000000)) (fun s hs => ⟨hs.1, hs.2.2, fun h => ⟨s, hs, h⟩⟩) (fun a b hp he => by
          obtain ⟨p1, p2, p3⟩ := hp
          obtain ⟨q1, q2, q3, q4, q5, q6⟩ := he
          refine ⟨q2, q5, fun hf => p3 ?_⟩
          obtain ⟨d1, d2, d3⟩ := hD a p1 p2
          by_cases hgg : a % 8 = g
          · rw [d2 hgg]; decide
          · obtain ⟨b', l', s', e1, e2, e3, e4⟩ := dig28 hD hk q2 q5 hf
            have h9 := hk.1 b q2
            have h5 := (d3 hgg).1 (b % 8) (by omega) (by rw [show 8 * (a % 8) + b % 8 = b from by omega]; exact q5)
            unfold sC tcf at h5
            rw [if_pos q6, show 8 * (a % 8) + b % 8 = b from by omega] at h5
            have h6 := h5 (by omega)
            omega)
        obtain ⟨p1, p2, p3⟩ := h1
        obtain ⟨s, hs, hsf⟩ := p3 (by rw [(hD c p1 p2).2.1 hcg]; decide)
        obtain ⟨q1, q2, q3⟩ := hs
        have h5 := w2 (s % 8) (by omega) (by rw [show 8 * x + s % 8 = s from by omega]; exact q3)
        rw [show 8 * x + s % 8 = s from by omega] at h5
        obtain ⟨b', l', s', e1, e2, e3, e4⟩ := dig28 hD hk q1 q3 hsf
        have h9 := hk.1 s q1
        omega
