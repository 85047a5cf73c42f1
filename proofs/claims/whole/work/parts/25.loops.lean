/-! tools: numbers for simp (side conditions by omega), loops over lists that are filtered ranges, towns -/
theorem kcl {n : Nat} (h : n < 2147483648) : (nI n).toNatClampNeg = n := nI_clamp h
theorem kin {n N : Nat} (h : n < N) (hN : N < 2147483648) : vp_in (nI n) N = True := eq_true (vp_in_nI h hN)
theorem kle {a b : Nat} (ha : a < 2147483648) (hb : b < 2147483648) : (nI a ≤ nI b) = (a ≤ b) := propext (nI_leI ha hb)
theorem klt {a b : Nat} (ha : a < 2147483648) (hb : b < 2147483648) : (nI a < nI b) = (a < b) := propext (nI_ltI ha hb)
theorem keq {a b : Nat} (ha : a < 2147483648) (hb : b < 2147483648) : (nI a = nI b) = (a = b) := propext (nI_eq ha hb)
theorem ksub {a b : Nat} (h : b ≤ a) : nI a - nI b = nI (a - b) := pk_sub h
theorem kdv {a d : Nat} (ha : a < 2147483648) (h0 : 0 < d) (hd : d < 2147483648) : nI a / nI d = nI (a / d) := pk_div ha h0 hd
theorem kd8 (a : Nat) : a - a / 8 * 8 = a % 8 := by omega
theorem kd64 (a : Nat) : a - a / 64 * 64 = a % 64 := by omega
theorem km8 (a : Nat) : a * 8 = 8 * a := by omega
theorem km64 (a : Nat) : a * 64 = 64 * a := by omega
theorem kt8 (x y : Nat) : 8 * (8 * x + y) = 64 * x + 8 * y := by omega
theorem ke8 (a : Nat) : a - 8 * (a / 8) = a % 8 := by omega
theorem ke64 (a : Nat) : a - 64 * (a / 64) = a % 64 := by omega
theorem kd2 (a : Nat) : a - a / 2 * 2 = a % 2 := by omega
theorem kd3 (a : Nat) : a - a / 3 * 3 = a % 3 := by omega
theorem ktI {n : Nat} (h : n < 2147483648) : (nI n).toInt = (n : Int) := nI_toInt h
theorem kzl {x : Int32} : x.toInt64 < (0 : Int64) ↔ x < nI 0 := cr_l0
theorem kcz {c : Nat} (hc : c < 2147483648) {x : Int32} : (nI c).toInt64 - (1 : Int64) < x.toInt64 ↔ nI c ≤ x := cr_l1 hc
theorem kcz1 {c : Nat} (hc : c < 2147483648) {x : Int32} : (nI c - nI 1).toInt64 < x.toInt64 ↔ nI c ≤ x := by
  rw [Int64.lt_iff_toInt_lt, toInt64_toInt, toInt64_toInt, Int32.le_iff_toInt_le, nI_toInt hc, Int32.toInt_sub, nI_toInt hc]
  show Int.bmod ((c : Int) - 1) (2 ^ 32) < x.toInt ↔ _
  rw [Int.bmod_eq_of_le] <;> omega
theorem klit (n : Nat) (h : n < 2147483648) {x : Int32} : Int64.ofNat n < x.toInt64 ↔ ¬ x ≤ nI n := by
  have e : (Int64.ofNat n).toInt = n := lN_toInt h
  rw [Int64.lt_iff_toInt_lt, toInt64_toInt, Int32.le_iff_toInt_le, nI_toInt h, e]
  omega
/-- an int against a bound -/
theorem crs (x : Int32) (n : Nat) (hn : n < 2147483648) : x < nI 0 ∨ (¬ x < nI 0 ∧ nI n ≤ x) ∨ ∃ k, k < n ∧ x = nI k := by
  by_cases h : x < nI 0
  · exact Or.inl h
  · by_cases h2 : nI n ≤ x
    · exact Or.inr (Or.inl ⟨h, h2⟩)
    · exact Or.inr (Or.inr (cr_i hn h h2))
/-- a filtered range: the place of k is how many stand ahead of it -/
theorem fl_at {p : Nat → Bool} : ∀ (N k : Nat), k < N → p k = true → ((List.range N).filter p)[((List.range k).filter p).length]? = some k := by
  intro N
  induction N with
  | zero => intro k h; omega
  | succ N ih =>
    intro k h hp
    rw [List.range_succ, List.filter_append]
    by_cases hk : k < N
    · have h1 := ih k hk hp
      rw [List.getElem?_append_left (List.getElem?_eq_some_iff.mp h1).1]
      exact h1
    · have : k = N := by omega
      subst this
      rw [List.getElem?_append_right (Nat.le_refl _), Nat.sub_self]
      simp [hp]
theorem fl_len (p : Nat → Bool) (k : Nat) : ((List.range (k + 1)).filter p).length = ((List.range k).filter p).length + (if p k = true then 1 else 0) := by
  rw [List.range_succ, List.filter_append, List.length_append]
  by_cases hp : p k = true <;> simp [hp]
/-- a loop over a filtered range is a loop over the range -/
theorem lp_fl {N : Nat} {p : Nat → Bool} {l : List Nat} (hl : l = (List.range N).filter p) {S : Type} {T : Nat → S → Prop} (Inv : Nat → S → Prop)
    (skip : ∀ k s, k < N → p k = false → Inv k s → Inv (k + 1) s)
    (step : ∀ k i s, k < N → p k = true → i < l.length → l.getD i 0 = k → Inv k s → (∀ s', Inv (k + 1) s' → T (i + 1) s') → T i s)
    (last : ∀ s, Inv N s → T l.length s) : ∀ s, Inv 0 s → T 0 s := by
  subst hl
  have key : ∀ m k s, k + m = N → Inv k s → T ((List.range k).filter p).length s := by
    intro m
    induction m with
    | zero =>
      intro k s h hi
      have : k = N := by omega
      subst this
      exact last s hi
    | succ m ih =>
      intro k s h hi
      have e1 := fl_len p k
      cases hp : p k with
      | false =>
        have h3 := ih (k + 1) s (by omega) (skip k s (by omega) hp hi)
        rw [e1, hp] at h3
        simpa using h3
      | true =>
        have e2 := fl_at N k (by omega) hp
        have e3 := (List.getElem?_eq_some_iff.mp e2).1
        refine step k _ s (by omega) hp e3 (by rw [List.getD_eq_getElem?_getD, e2]; rfl) hi (fun s' h' => ?_)
        have h3 := ih (k + 1) s' (by omega) h'
        rw [e1, hp] at h3
        simpa using h3
  intro s h
  exact key N 0 s (by omega) h
/-- a loop up to n, told by what holds up to N: nothing more is done from n on -/
theorem lp_ux {n N : Nat} {S : Type} {T : Nat → S → Prop} (Inv : Nat → S → Prop) (hn : n ≤ N)
    (skip : ∀ k s, n ≤ k → k < N → Inv k s → Inv (k + 1) s)
    (step : ∀ k s, k < n → Inv k s → (∀ s', Inv (k + 1) s' → T (k + 1) s') → T k s)
    (last : ∀ s, Inv N s → T n s) : ∀ s, Inv 0 s → T 0 s := by
  intro s h
  refine lp_up (T := T) Inv step (fun s hs => last s ?_) 0 s (Nat.zero_le _) h
  have : ∀ m, n + m ≤ N → Inv (n + m) s := by
    intro m
    induction m with
    | zero => intro _; exact hs
    | succ m ih => intro hm; exact skip (n + m) s (by omega) (by omega) (ih (by omega))
  have h2 := this (N - n) (by omega)
  rwa [show n + (N - n) = N from by omega] at h2
/-- step by step from 0 on -/
def acc {α : Type} (f : Nat → α → α) (a : α) : Nat → α
  | 0 => a
  | k + 1 => f k (acc f a k)
theorem acc_s {α : Type} (f : Nat → α → α) (a : α) (k : Nat) : acc f a (k + 1) = f k (acc f a k) := rfl
theorem acc_0 {α : Type} (f : Nat → α → α) (a : α) : acc f a 0 = a := rfl
theorem acc_c {α : Type} {f g : Nat → α → α} {a : α} {n : Nat} (h : ∀ k x, k < n → f k x = g k x) : acc f a n = acc g a n := by
  induction n with
  | zero => rfl
  | succ n ih => rw [acc_s, acc_s, ih (fun k x hk => h k x (by omega)), h n _ (by omega)]
/-- a town: numbers (0: crossings, uses, half, lines, errands, acts), 1 streets, 2 uses, 3 left, 4 from, 5 to, 6 hours, 7 acts' turns, 8 acts' kinds -/
abbrev tw : Type := Nat → Nat → Nat
/-- whether it is a turn -/
def tB (t : tw) (k : Nat) : Bool := decide (0 < t 1 (k / 8)) && decide (0 < t 1 (k % 64))
def nbp (t : tw) (x : Nat) : Nat → Bool := fun y => decide (0 < t 1 (8 * x + y))
def arp (t : tw) : Nat → Bool := fun a => decide (0 < t 1 a)
abbrev nb (t : tw) (x : Nat) : List Nat := (List.range 8).filter (nbp t x)
abbrev ar (t : tw) : List Nat := (List.range 64).filter (arp t)
abbrev tu (t : tw) : List Nat := (List.range 512).filter (tB t)
/-- going back over what was led: within bounds -/
def hst (t : tw) : Nat → (Nat → Nat) → Prop
  | 0, _ => True
  | m + 1, lf => t 7 m < 512 ∧ tB t (t 7 m) = true ∧ ((t 8 m = 1 ∧ lf (t 7 m) < 9) ∨ (t 8 m = 0 ∧ 0 < lf (t 7 m))) ∧ hst t m (va_up lf (t 7 m) (if t 8 m = 1 then lf (t 7 m) + 1 else lf (t 7 m) - 1))
/-- a town as it can be -/
def tok (t : tw) : Prop := t 0 0 ≤ 8 ∧ (t 0 3 = 0 ↔ t 0 0 = 0) ∧ t 0 3 ≤ 5000 ∧ (∀ x, x < 8 → ∀ y, y < 8 → t 1 (8 * x + y) = t 1 (8 * y + x)) ∧ (∀ x, x < 8 → t 1 (8 * x + x) = 0) ∧ (∀ k, k < 64 → t 1 k ≤ 9) ∧ (∀ x, x < 8 → ∀ y, y < 8 → 0 < t 1 (8 * x + y) → x < t 0 0 ∧ y < t 0 0) ∧ (ar t).length ≤ 28 ∧ (∀ k, k < 512 → t 2 k ≤ 9 ∧ t 3 k ≤ 9) ∧ (∀ k, k < 512 → tB t k = false → t 3 k = 0) ∧ t 0 4 ≤ 6 ∧ (∀ j, j < t 0 4 → t 4 j < t 0 0 ∧ t 5 j < t 0 0 ∧ t 4 j ≠ t 5 j ∧ t 6 j < 24) ∧ t 0 5 ≤ 60 ∧ hst t (t 0 5) (t 3) ∧ t 0 1 ≤ 3 ∧ t 0 2 ≤ 3
/-- the class's town at object b -/
def CTb (b : Nat) (t : tw) (I : Nat → Nat → Int32) : Prop := I b 0 = nI (t 0 0) ∧ I b 1 = nI (t 0 1) ∧ I b 2 = nI (t 0 2) ∧ I b 3 = nI (t 0 3) ∧ I b 4 = nI ((ar t).length / 2) ∧ I b 5 = nI (ar t).length ∧ I b 6 = nI (tu t).length ∧ I b 7 = nI (t 0 4) ∧ I b 8 = nI (t 0 5) ∧ (∀ k, k < 64 → I (b + 1) k = nI (t 1 k)) ∧ (∀ x, x < 8 → I (b + 2) x = nI (nb t x).length) ∧ (∀ x, x < 8 → ∀ i, i < (nb t x).length → I (b + 3) (8 * x + i) = nI ((nb t x).getD i 0)) ∧ (∀ i, i < (ar t).length → I (b + 4) i = nI ((ar t).getD i 0)) ∧ (∀ i, i < (tu t).length → I (b + 5) i = nI ((tu t).getD i 0)) ∧ (∀ k, k < 512 → tB t k = true → I (b + 6) k = nI (t 2 k)) ∧ (∀ k, k < 512 → tB t k = true → I (b + 7) k = nI (t 3 k)) ∧ (∀ j, j < t 0 4 → I (b + 8) j = nI (t 4 j)) ∧ (∀ j, j < t 0 4 → I (b + 9) j = nI (t 5 j)) ∧ (∀ j, j < t 0 4 → I (b + 10) j = nI (t 6 j)) ∧ (∀ i, i < t 0 5 → I (b + 11) i = nI (2 * t 7 i + t 8 i))
def CT (t : tw) (I : Nat → Nat → Int32) : Prop := I 3 0 = nI (t 0 0) ∧ I 3 1 = nI (t 0 1) ∧ I 3 2 = nI (t 0 2) ∧ I 3 3 = nI (t 0 3) ∧ I 3 4 = nI ((ar t).length / 2) ∧ I 3 5 = nI (ar t).length ∧ I 3 6 = nI (tu t).length ∧ I 3 7 = nI (t 0 4) ∧ I 3 8 = nI (t 0 5) ∧ (∀ k, k < 64 → I 4 k = nI (t 1 k)) ∧ (∀ x, x < 8 → I 5 x = nI (nb t x).length) ∧ (∀ x, x < 8 → ∀ i, i < (nb t x).length → I 6 (8 * x + i) = nI ((nb t x).getD i 0)) ∧ (∀ i, i < (ar t).length → I 7 i = nI ((ar t).getD i 0)) ∧ (∀ i, i < (tu t).length → I 8 i = nI ((tu t).getD i 0)) ∧ (∀ k, k < 512 → tB t k = true → I 9 k = nI (t 2 k)) ∧ (∀ k, k < 512 → tB t k = true → I 10 k = nI (t 3 k)) ∧ (∀ j, j < t 0 4 → I 11 j = nI (t 4 j)) ∧ (∀ j, j < t 0 4 → I 12 j = nI (t 5 j)) ∧ (∀ j, j < t 0 4 → I 13 j = nI (t 6 j)) ∧ (∀ i, i < t 0 5 → I 14 i = nI (2 * t 7 i + t 8 i))
theorem CT_b {t : tw} {I : Nat → Nat → Int32} : CT t I = CTb 3 t I := rfl
/-- the reference's town number w -/
def MTw (w : Nat) (t : tw) (I : Nat → Nat → Int32) : Prop := I 79 w = nI (t 0 3) ∧ I 80 (5 * w) = nI (t 0 0) ∧ I 80 (5 * w + 1) = nI (t 0 1) ∧ I 80 (5 * w + 2) = nI (t 0 2) ∧ I 80 (5 * w + 3) = nI (t 0 4) ∧ I 80 (5 * w + 4) = nI (t 0 5) ∧ (∀ k, k < 64 → I 81 (64 * w + k) = nI (t 1 k)) ∧ (∀ k, k < 512 → I 82 (512 * w + k) = nI (t 2 k)) ∧ (∀ k, k < 512 → I 83 (512 * w + k) = nI (t 3 k)) ∧ (∀ j, j < t 0 4 → I 84 (18 * w + (3 * j)) = nI (t 4 j)) ∧ (∀ j, j < t 0 4 → I 84 (18 * w + (3 * j + 1)) = nI (t 5 j)) ∧ (∀ j, j < t 0 4 → I 84 (18 * w + (3 * j + 2)) = nI (t 6 j)) ∧ (∀ i, i < t 0 5 → I 85 (120 * w + 2 * i) = nI (t 7 i)) ∧ (∀ i, i < t 0 5 → I 85 (120 * w + (2 * i + 1)) = nI (t 8 i))
def MT (t : tw) (I : Nat → Nat → Int32) : Prop := I 79 0 = nI (t 0 3) ∧ I 80 0 = nI (t 0 0) ∧ I 80 1 = nI (t 0 1) ∧ I 80 2 = nI (t 0 2) ∧ I 80 3 = nI (t 0 4) ∧ I 80 4 = nI (t 0 5) ∧ (∀ k, k < 64 → I 81 k = nI (t 1 k)) ∧ (∀ k, k < 512 → I 82 k = nI (t 2 k)) ∧ (∀ k, k < 512 → I 83 k = nI (t 3 k)) ∧ (∀ j, j < t 0 4 → I 84 (3 * j) = nI (t 4 j)) ∧ (∀ j, j < t 0 4 → I 84 (3 * j + 1) = nI (t 5 j)) ∧ (∀ j, j < t 0 4 → I 84 (3 * j + 2) = nI (t 6 j)) ∧ (∀ i, i < t 0 5 → I 85 (2 * i) = nI (t 7 i)) ∧ (∀ i, i < t 0 5 → I 85 (2 * i + 1) = nI (t 8 i))
theorem MT_w {t : tw} {I : Nat → Nat → Int32} : MT t I ↔ MTw 0 t I := by
  unfold MT MTw
  simp only [Nat.mul_zero, Nat.zero_add]
theorem CTb_c {b : Nat} {t : tw} {I J : Nat → Nat → Int32} (h : ∀ a, b ≤ a → a ≤ b + 11 → J a = I a) (hC : CTb b t I) : CTb b t J := by
  unfold CTb at hC ⊢
  rw [h b (by omega) (by omega), h (b + 1) (by omega) (by omega), h (b + 2) (by omega) (by omega), h (b + 3) (by omega) (by omega), h (b + 4) (by omega) (by omega), h (b + 5) (by omega) (by omega), h (b + 6) (by omega) (by omega), h (b + 7) (by omega) (by omega), h (b + 8) (by omega) (by omega), h (b + 9) (by omega) (by omega), h (b + 10) (by omega) (by omega), h (b + 11) (by omega) (by omega)]
  exact hC
theorem MTw_c {w : Nat} {t : tw} {I J : Nat → Nat → Int32} (h : ∀ a, 79 ≤ a → a ≤ 85 → J a = I a) (hC : MTw w t I) : MTw w t J := by
  unfold MTw at hC ⊢
  rw [h 79 (by omega) (by omega), h 80 (by omega) (by omega), h 81 (by omega) (by omega), h 82 (by omega) (by omega), h 83 (by omega) (by omega), h 84 (by omega) (by omega), h 85 (by omega) (by omega)]
  exact hC
/-- scratch: rows that no later call reads; fields of the reference that none reads -/
def SC : List Nat := [2, 15, 16, 17, 18, 19, 20, 21, 22, 23, 24, 25, 26, 38, 39, 40, 41, 42, 43, 44, 45, 46, 47, 48, 49, 50, 52, 54, 55, 56, 57, 58, 59, 60, 62, 63, 64, 65, 66, 67, 68, 69, 70, 71, 72, 87, 88, 89, 90, 91, 92, 93, 94, 95, 96]
def FC : List Nat := [0, 7, 8, 9, 10, 11, 12, 13, 27, 28, 34, 35, 37, 38, 40, 41, 42, 43, 44, 45]
theorem fr_CT {t : tw} {S F : List Nat} {I J : Nat → Nat → Int32} (h : fr S F I J) (hC : CT t I) (hs : (List.range 12).all (fun a => !S.contains (3 + a)) = true) : CT t J := by
  rw [CT_b] at hC ⊢
  refine CTb_c (fun a h1 h2 => ?_) hC
  refine h.1 a (fun hm => ?_) (by omega)
  have h3 := List.all_eq_true.mp hs (a - 3) (List.mem_range.mpr (by omega))
  rw [show 3 + (a - 3) = a from by omega, List.contains_iff_mem.mpr hm] at h3
  cases h3
theorem fr_MT {t : tw} {S F : List Nat} {I J : Nat → Nat → Int32} (h : fr S F I J) (hC : MT t I) (hs : (List.range 7).all (fun a => !S.contains (79 + a)) = true) : MT t J := by
  rw [MT_w] at hC ⊢
  refine MTw_c (fun a h1 h2 => ?_) hC
  refine h.1 a (fun hm => ?_) (by omega)
  have h3 := List.all_eq_true.mp hs (a - 79) (List.mem_range.mpr (by omega))
  rw [show 79 + (a - 79) = a from by omega, List.contains_iff_mem.mpr hm] at h3
  cases h3
