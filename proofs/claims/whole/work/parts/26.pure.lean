/-! pure: counting, first places, sums; costs of ways (isD), how they are unique, that there are such, their digits, the first way -/
def cn (p : Nat → Bool) : Nat → Nat
  | 0 => 0
  | n + 1 => cn p n + (if p n = true then 1 else 0)
theorem cn_fl (p : Nat → Bool) (n : Nat) : ((List.range n).filter p).length = cn p n := by
  induction n with
  | zero => rfl
  | succ n ih => rw [fl_len, ih]; rfl
theorem cn_le {p q : Nat → Bool} {n : Nat} (h : ∀ k, k < n → p k = true → q k = true) : cn p n ≤ cn q n := by
  induction n with
  | zero => exact Nat.le_refl _
  | succ n ih =>
    have h1 := ih (fun k hk => h k (by omega))
    have h2 := h n (by omega)
    show cn p n + (if p n = true then 1 else 0) ≤ cn q n + (if q n = true then 1 else 0)
    by_cases hp : p n = true
    · rw [if_pos hp, if_pos (h2 hp)]; omega
    · rw [if_neg hp]; split <;> omega
theorem cn_lt {p q : Nat → Bool} {n k0 : Nat} (h : ∀ k, k < n → p k = true → q k = true) (hk : k0 < n) (hp : p k0 = false) (hq : q k0 = true) : cn p n < cn q n := by
  induction n with
  | zero => omega
  | succ n ih =>
    show cn p n + (if p n = true then 1 else 0) < cn q n + (if q n = true then 1 else 0)
    by_cases he : k0 = n
    · rw [he] at hp hq
      have h1 := cn_le (p := p) (q := q) (n := n) (fun k hk => h k (by omega))
      rw [if_neg (by rw [hp]; decide), if_pos hq]; omega
    · have h1 := ih (fun k hk => h k (by omega)) (by omega)
      have h2 := h n (by omega)
      by_cases hp2 : p n = true
      · rw [if_pos hp2, if_pos (h2 hp2)]; omega
      · rw [if_neg hp2]; split <;> omega
theorem cn_n (p : Nat → Bool) (n : Nat) : cn p n ≤ n := by
  induction n with
  | zero => exact Nat.le_refl _
  | succ n ih =>
    show cn p n + (if p n = true then 1 else 0) ≤ n + 1
    split <;> omega
/-- the first place, N: none -/
def ff (p : Nat → Bool) : Nat → Nat
  | 0 => 0
  | n + 1 => if ff p n < n then ff p n else if p n = true then n else n + 1
theorem ff_sp (p : Nat → Bool) (N : Nat) : ff p N ≤ N ∧ (∀ j, j < ff p N → p j = false) ∧ (ff p N < N → p (ff p N) = true) := by
  induction N with
  | zero => exact ⟨Nat.le_refl _, fun j hj => absurd hj (Nat.not_lt_zero _), fun h => absurd h (Nat.not_lt_zero _)⟩
  | succ n ih =>
    obtain ⟨h1, h2, h3⟩ := ih
    show (if ff p n < n then ff p n else if p n = true then n else n + 1) ≤ n + 1 ∧ (∀ j, j < (if ff p n < n then ff p n else if p n = true then n else n + 1) → p j = false) ∧ ((if ff p n < n then ff p n else if p n = true then n else n + 1) < n + 1 → p (if ff p n < n then ff p n else if p n = true then n else n + 1) = true)
    by_cases ha : ff p n < n
    · rw [if_pos ha]
      exact ⟨by omega, h2, fun _ => h3 ha⟩
    · have he : ff p n = n := by omega
      rw [he] at h2
      rw [if_neg ha]
      by_cases hp : p n = true
      · rw [if_pos hp]
        exact ⟨by omega, h2, fun _ => hp⟩
      · rw [if_neg hp]
        refine ⟨by omega, fun j hj => ?_, fun h => by omega⟩
        by_cases hj2 : j = n
        · rw [hj2]; simpa using hp
        · exact h2 j (by omega)
theorem ff_eq {p : Nat → Bool} {N k : Nat} (hk : k < N) (hp : p k = true) (hb : ∀ j, j < k → p j = false) : ff p N = k := by
  obtain ⟨h1, h2, h3⟩ := ff_sp p N
  rcases Nat.lt_trichotomy (ff p N) k with h | h | h
  · have := h3 (by omega)
    rw [hb _ h] at this; cases this
  · exact h
  · have := h2 k h
    rw [hp] at this; cases this
theorem ff_no {p : Nat → Bool} {N : Nat} (hb : ∀ j, j < N → p j = false) : ff p N = N := by
  obtain ⟨h1, h2, h3⟩ := ff_sp p N
  rcases Nat.lt_or_ge (ff p N) N with h | h
  · have := h3 h
    rw [hb _ h] at this; cases this
  · omega
def sm (f : Nat → Nat) : Nat → Nat
  | 0 => 0
  | n + 1 => sm f n + f n
theorem sm_c {f g : Nat → Nat} {n : Nat} (h : ∀ k, k < n → f k = g k) : sm f n = sm g n := by
  induction n with
  | zero => rfl
  | succ n ih =>
    show sm f n + f n = sm g n + g n
    rw [ih (fun k hk => h k (by omega)), h n (by omega)]
theorem sm_le {f g : Nat → Nat} {n : Nat} (h : ∀ k, k < n → f k ≤ g k) : sm f n ≤ sm g n := by
  induction n with
  | zero => exact Nat.le_refl _
  | succ n ih =>
    show sm f n + f n ≤ sm g n + g n
    have h1 := ih (fun k hk => h k (by omega))
    have h2 := h n (by omega)
    omega
theorem sm_lt {f g : Nat → Nat} {n k0 : Nat} (h : ∀ k, k < n → f k ≤ g k) (hk : k0 < n) (hl : f k0 < g k0) : sm f n < sm g n := by
  induction n with
  | zero => omega
  | succ n ih =>
    show sm f n + f n < sm g n + g n
    have h2 := h n (by omega)
    by_cases he : k0 = n
    · rw [he] at hl
      have h1 := sm_le (f := f) (g := g) (n := n) (fun k hk => h k (by omega))
      omega
    · have h1 := ih (fun k hk => h k (by omega)) (by omega)
      omega
theorem sm_add (f g : Nat → Nat) (n : Nat) : sm (fun k => f k + g k) n = sm f n + sm g n := by
  induction n with
  | zero => rfl
  | succ n ih =>
    show sm (fun k => f k + g k) n + (f n + g n) = (sm f n + f n) + (sm g n + g n)
    omega
theorem sm_bd {f : Nat → Nat} {n B : Nat} (h : ∀ k, k < n → f k ≤ B) : sm f n ≤ n * B := by
  induction n with
  | zero => simp [sm]
  | succ n ih =>
    show sm f n + f n ≤ (n + 1) * B
    have h1 := ih (fun k hk => h k (by omega))
    have h2 := h n (by omega)
    rw [Nat.add_mul]
    omega
/-- what it costs to go on from arc a to crossing z, by what it costs behind -/
def sC (st tc D : Nat → Nat) (a z : Nat) : Nat := tc (8 * a + z) + (100 * st (8 * (a % 8) + z) + 1) + D (8 * (a % 8) + z)
def isD (st tc : Nat → Nat) (g : Nat) (D : Nat → Nat) : Prop := ∀ a, a < 64 → 0 < st a → D a ≤ 100000000 ∧ (a % 8 = g → D a = 0) ∧ (a % 8 ≠ g → (∀ z, z < 8 → 0 < st (8 * (a % 8) + z) → sC st tc D a z < 100000000 → D a ≤ sC st tc D a z) ∧ (D a < 100000000 → ∃ z, z < 8 ∧ 0 < st (8 * (a % 8) + z) ∧ D a = sC st tc D a z))
theorem isD_le {st tc D E : Nat → Nat} {g : Nat} (hD : isD st tc g D) (hE : isD st tc g E) : ∀ v a, a < 64 → 0 < st a → D a = v → v < 100000000 → E a ≤ v := by
  intro v
  induction v using Nat.strongRecOn with
  | ind v ih =>
    intro a ha hs hv hf
    obtain ⟨d1, d2, d3⟩ := hD a ha hs
    obtain ⟨e1, e2, e3⟩ := hE a ha hs
    by_cases hg : a % 8 = g
    · rw [e2 hg]; omega
    · obtain ⟨z, hz, hsz, hd⟩ := (d3 hg).2 (by omega)
      unfold sC at hd
      have h1 := ih (D (8 * (a % 8) + z)) (by omega) (8 * (a % 8) + z) (by omega) hsz rfl (by omega)
      have h2 := (e3 hg).1 z hz hsz (by unfold sC; omega)
      unfold sC at h2
      omega
theorem isD_un {st tc D E : Nat → Nat} {g : Nat} (hD : isD st tc g D) (hE : isD st tc g E) {a : Nat} (ha : a < 64) (hs : 0 < st a) : D a = E a := by
  have d1 := (hD a ha hs).1
  have e1 := (hE a ha hs).1
  have h1 : E a ≤ D a := by
    rcases Nat.lt_or_ge (D a) 100000000 with h | h
    · exact isD_le hD hE _ a ha hs rfl h
    · omega
  have h2 : D a ≤ E a := by
    rcases Nat.lt_or_ge (E a) 100000000 with h | h
    · exact isD_le hE hD _ a ha hs rfl h
    · omega
  omega
/-- costs that are borne by ways, not least yet -/
def pD (st tc : Nat → Nat) (g : Nat) (D : Nat → Nat) : Prop := ∀ a, a < 64 → 0 < st a → D a ≤ 100000000 ∧ (a % 8 = g → D a = 0) ∧ (a % 8 ≠ g → D a < 100000000 → ∃ z, z < 8 ∧ 0 < st (8 * (a % 8) + z) ∧ sC st tc D a z ≤ D a)
theorem sC_m {st tc D E : Nat → Nat} {a z : Nat} (h : ∀ k, E k ≤ D k) : sC st tc E a z ≤ sC st tc D a z := by
  unfold sC
  have := h (8 * (a % 8) + z)
  omega
theorem pD_up {st tc D : Nat → Nat} {g a z : Nat} (hp : pD st tc g D) (ha : a < 64) (hs : 0 < st a) (hg : a % 8 ≠ g) (hz : z < 8) (hb : 0 < st (8 * (a % 8) + z)) (hl : sC st tc D a z < D a) : pD st tc g (va_up D a (sC st tc D a z)) := by
  have hle : ∀ k, va_up D a (sC st tc D a z) k ≤ D k := by
    intro k
    by_cases hk : k = a
    · rw [hk, up_s]; omega
    · rw [up_n hk]; exact Nat.le_refl _
  intro c hc hs2
  obtain ⟨p1, p2, p3⟩ := hp c hc hs2
  by_cases hca : c = a
  · rw [hca] at p1 ⊢
    rw [up_s]
    refine ⟨by omega, fun h => absurd h hg, fun _ _ => ⟨z, hz, hb, ?_⟩⟩
    exact sC_m hle
  · rw [up_n hca]
    refine ⟨p1, p2, fun h1 h2 => ?_⟩
    obtain ⟨y, hy, hys, hyl⟩ := p3 h1 h2
    exact ⟨y, hy, hys, Nat.le_trans (sC_m hle) hyl⟩
theorem pD_is {st tc D : Nat → Nat} {g : Nat} (hp : pD st tc g D) (h : ∀ a z, a < 64 → 0 < st a → a % 8 ≠ g → z < 8 → 0 < st (8 * (a % 8) + z) → sC st tc D a z < 100000000 → D a ≤ sC st tc D a z) : isD st tc g D := by
  intro a ha hs
  obtain ⟨p1, p2, p3⟩ := hp a ha hs
  refine ⟨p1, p2, fun hg => ⟨fun z hz hb hf => h a z ha hs hg hz hb hf, fun hf => ?_⟩⟩
  obtain ⟨z, hz, hb, hl⟩ := p3 hg hf
  have := h a z ha hs hg hz hb (by omega)
  exact ⟨z, hz, hb, by omega⟩
theorem pD_0 (st tc : Nat → Nat) (g : Nat) : pD st tc g (fun a => if a % 8 = g then 0 else 100000000) := by
  intro a ha hs
  show (if a % 8 = g then 0 else 100000000) ≤ 100000000 ∧ (a % 8 = g → (if a % 8 = g then 0 else 100000000) = 0) ∧ (a % 8 ≠ g → (if a % 8 = g then 0 else 100000000) < 100000000 → _)
  by_cases hg : a % 8 = g
  · rw [if_pos hg]
    exact ⟨by omega, fun _ => rfl, fun h => absurd hg h⟩
  · rw [if_neg hg]
    exact ⟨by omega, fun h => absurd h hg, fun _ h => by omega⟩
theorem wD_ex (st tc : Nat → Nat) (g : Nat) : ∃ D, isD st tc g D := by
  have key : ∀ m D, sm D 64 = m → pD st tc g D → ∃ D, isD st tc g D := by
    intro m
    induction m using Nat.strongRecOn with
    | ind m ih =>
      intro D hm hp
      by_cases h : ∃ a z, a < 64 ∧ 0 < st a ∧ a % 8 ≠ g ∧ z < 8 ∧ 0 < st (8 * (a % 8) + z) ∧ sC st tc D a z < D a
      · obtain ⟨a, z, ha, hs, hg, hz, hb, hl⟩ := h
        refine ih (sm (va_up D a (sC st tc D a z)) 64) ?_ _ rfl (pD_up hp ha hs hg hz hb hl)
        rw [← hm]
        refine sm_lt (k0 := a) (fun k _ => ?_) ha (by rw [up_s]; exact hl)
        by_cases hk : k = a
        · rw [hk, up_s]; omega
        · rw [up_n hk]; exact Nat.le_refl _
      · refine ⟨D, pD_is hp (fun a z ha hs hg hz hb _ => ?_)⟩
        exact Nat.le_of_not_lt (fun hl => h ⟨a, z, ha, hs, hg, hz, hb, hl⟩)
  exact key _ _ rfl (pD_0 st tc g)
noncomputable def wD (st tc : Nat → Nat) (g : Nat) : Nat → Nat := Classical.choose (wD_ex st tc g)
theorem wD_is (st tc : Nat → Nat) (g : Nat) : isD st tc g (wD st tc g) := Classical.choose_spec (wD_ex st tc g)
/-- arcs that are nearer -/
def rkp (st D : Nat → Nat) (v : Nat) : Nat → Bool := fun c => decide (0 < st c) && decide (D c < v)
theorem rk_lt {st D : Nat → Nat} {b v : Nat} (hb : b < 64) (hs : 0 < st b) (hl : D b < v) : cn (rkp st D (D b)) 64 < cn (rkp st D v) 64 := by
  refine cn_lt (k0 := b) (fun k _ hk => ?_) hb ?_ ?_
  · unfold rkp at hk ⊢
    rw [Bool.and_eq_true, decide_eq_true_eq, decide_eq_true_eq] at hk ⊢
    exact ⟨hk.1, by omega⟩
  · unfold rkp
    rw [decide_eq_false (show ¬ D b < D b from by omega), Bool.and_false]
  · unfold rkp
    rw [decide_eq_true hl, decide_eq_true hs]; rfl
theorem rk_27 {st D : Nat → Nat} {a : Nat} (h28 : cn (fun c => decide (0 < st c)) 64 ≤ 28) (ha : a < 64) (hs : 0 < st a) : cn (rkp st D (D a)) 64 ≤ 27 := by
  have : cn (rkp st D (D a)) 64 < cn (fun c => decide (0 < st c)) 64 := by
    refine cn_lt (k0 := a) (fun k _ hk => ?_) ha ?_ (decide_eq_true hs)
    · unfold rkp at hk
      rw [Bool.and_eq_true] at hk
      exact hk.1
    · unfold rkp
      rw [decide_eq_false (show ¬ D a < D a from by omega), Bool.and_false]
  omega
def tcok (tc : Nat → Nat) : Prop := ∀ k, k < 512 → tc k = 0 ∨ tc k = 1000000 ∨ tc k = 100000000
theorem dig {st tc D : Nat → Nat} {g : Nat} (hD : isD st tc g D) (h9 : ∀ k, k < 64 → st k ≤ 9) (htc : tcok tc) : ∀ v a, a < 64 → 0 < st a → D a = v → v < 100000000 → ∃ b l s, v = 1000000 * b + 100 * l + s ∧ b ≤ cn (rkp st D v) 64 ∧ l ≤ 9 * cn (rkp st D v) 64 ∧ s ≤ cn (rkp st D v) 64 := by
  intro v
  induction v using Nat.strongRecOn with
  | ind v ih =>
    intro a ha hs hv hf
    obtain ⟨d1, d2, d3⟩ := hD a ha hs
    by_cases hg : a % 8 = g
    · refine ⟨0, 0, 0, ?_, by omega, by omega, by omega⟩
      have := d2 hg
      omega
    · obtain ⟨z, hz, hsz, hd⟩ := (d3 hg).2 (by omega)
      unfold sC at hd
      obtain ⟨b, l, s, e1, e2, e3, e4⟩ := ih (D (8 * (a % 8) + z)) (by omega) (8 * (a % 8) + z) (by omega) hsz rfl (by omega)
      have h1 := rk_lt (st := st) (D := D) (b := 8 * (a % 8) + z) (v := v) (by omega) hsz (by omega)
      have h2 := h9 (8 * (a % 8) + z) (by omega)
      rcases htc (8 * a + z) (by omega) with h | h | h
      · exact ⟨b, l + st (8 * (a % 8) + z), s + 1, by omega, by omega, by omega, by omega⟩
      · exact ⟨b + 1, l + st (8 * (a % 8) + z), s + 1, by omega, by omega, by omega, by omega⟩
      · omega
/-- what all lemmas on ways ask -/
def stok (st tc : Nat → Nat) : Prop := (∀ k, k < 64 → st k ≤ 9) ∧ cn (fun c => decide (0 < st c)) 64 ≤ 28 ∧ tcok tc
theorem dig28 {st tc D : Nat → Nat} {g a : Nat} (hD : isD st tc g D) (hk : stok st tc) (ha : a < 64) (hs : 0 < st a) (hf : D a < 100000000) : ∃ b l s, D a = 1000000 * b + 100 * l + s ∧ b ≤ 27 ∧ l ≤ 243 ∧ s ≤ 27 := by
  obtain ⟨b, l, s, h1, h2, h3, h4⟩ := dig hD hk.1 hk.2.2 (D a) a ha hs rfl hf
  have := rk_27 (D := D) hk.2.1 ha hs
  exact ⟨b, l, s, h1, by omega, by omega, by omega⟩
/-- whether one goes on so -/
def nxp (st tc D : Nat → Nat) (a : Nat) : Nat → Bool := fun z => decide (0 < st (8 * (a % 8) + z)) && (decide (D (8 * (a % 8) + z) < 100000000) && decide (sC st tc D a z = D a))
theorem nxp_i {st tc D : Nat → Nat} {a z : Nat} : nxp st tc D a z = true ↔ 0 < st (8 * (a % 8) + z) ∧ D (8 * (a % 8) + z) < 100000000 ∧ sC st tc D a z = D a := by
  unfold nxp
  rw [Bool.and_eq_true, Bool.and_eq_true, decide_eq_true_eq, decide_eq_true_eq, decide_eq_true_eq]
def nxt (st tc D : Nat → Nat) (a : Nat) : Nat := ff (nxp st tc D a) 8
/-- the arcs of a way from its first on -/
def pA (st tc D : Nat → Nat) (a0 : Nat) : Nat → Nat
  | 0 => a0
  | i + 1 => 8 * (pA st tc D a0 i % 8) + nxt st tc D (pA st tc D a0 i)
theorem nxt_sp {st tc D : Nat → Nat} {g a : Nat} (hD : isD st tc g D) (ha : a < 64) (hs : 0 < st a) (hf : D a < 100000000) (hg : a % 8 ≠ g) : nxt st tc D a < 8 ∧ 0 < st (8 * (a % 8) + nxt st tc D a) ∧ D (8 * (a % 8) + nxt st tc D a) < D a ∧ sC st tc D a (nxt st tc D a) = D a ∧ ∀ z, z < nxt st tc D a → nxp st tc D a z = false := by
  obtain ⟨d1, d2, d3⟩ := hD a ha hs
  obtain ⟨z, hz, hsz, hd⟩ := (d3 hg).2 hf
  obtain ⟨f1, f2, f3⟩ := ff_sp (nxp st tc D a) 8
  have hzt : nxp st tc D a z = true := by
    unfold nxp
    have : D (8 * (a % 8) + z) < 100000000 := by unfold sC at hd; omega
    rw [decide_eq_true hsz, decide_eq_true this, decide_eq_true hd.symm]; rfl
  have hlt : ff (nxp st tc D a) 8 < 8 := by
    rcases Nat.lt_or_ge (ff (nxp st tc D a) 8) 8 with h | h
    · exact h
    · have := f2 z (by omega)
      rw [hzt] at this; cases this
  have h3 := nxp_i.mp (f3 hlt)
  refine ⟨hlt, h3.1, ?_, h3.2.2, f2⟩
  have h5 := h3.2.2
  show D (8 * (a % 8) + ff (nxp st tc D a) 8) < D a
  generalize ff (nxp st tc D a) 8 = zz at h5
  unfold sC at h5
  omega
/-- the arcs of a way, as long as it isn't at its end -/
theorem pA_sp {st tc D : Nat → Nat} {g a0 : Nat} (hD : isD st tc g D) (ha : a0 < 64) (hs : 0 < st a0) (hf : D a0 < 100000000) : ∀ i, (∀ j, j < i → pA st tc D a0 j % 8 ≠ g) → pA st tc D a0 i < 64 ∧ 0 < st (pA st tc D a0 i) ∧ D (pA st tc D a0 i) < 100000000 ∧ D (pA st tc D a0 i) ≤ D a0 ∧ cn (rkp st D (D (pA st tc D a0 i))) 64 + i ≤ cn (rkp st D (D a0)) 64 := by
  intro i
  induction i with
  | zero =>
    intro _
    exact ⟨ha, hs, hf, Nat.le_refl _, Nat.le_refl _⟩
  | succ i ih =>
    intro hj
    obtain ⟨h1, h2, h3, h4, h5⟩ := ih (fun j hj2 => hj j (by omega))
    obtain ⟨n1, n2, n3, n4, n5⟩ := nxt_sp hD h1 h2 h3 (hj i (by omega))
    show 8 * (pA st tc D a0 i % 8) + nxt st tc D (pA st tc D a0 i) < 64 ∧ 0 < st (8 * (pA st tc D a0 i % 8) + nxt st tc D (pA st tc D a0 i)) ∧ D (8 * (pA st tc D a0 i % 8) + nxt st tc D (pA st tc D a0 i)) < 100000000 ∧ D (8 * (pA st tc D a0 i % 8) + nxt st tc D (pA st tc D a0 i)) ≤ D a0 ∧ cn (rkp st D (D (8 * (pA st tc D a0 i % 8) + nxt st tc D (pA st tc D a0 i)))) 64 + (i + 1) ≤ _
    have := rk_lt (st := st) (D := D) (v := D (pA st tc D a0 i)) (show 8 * (pA st tc D a0 i % 8) + nxt st tc D (pA st tc D a0 i) < 64 from by omega) n2 n3
    exact ⟨by omega, n2, by omega, by omega, by omega⟩
/-- how many steps a way goes on behind its first arc -/
def wS (st tc D : Nat → Nat) (g a0 : Nat) : Nat := ff (fun i => decide (pA st tc D a0 i % 8 = g)) 40
theorem wS_sp {st tc D : Nat → Nat} {g a0 : Nat} (hD : isD st tc g D) (hk : stok st tc) (ha : a0 < 64) (hs : 0 < st a0) (hf : D a0 < 100000000) : wS st tc D g a0 ≤ 27 ∧ pA st tc D a0 (wS st tc D g a0) % 8 = g ∧ ∀ j, j < wS st tc D g a0 → pA st tc D a0 j % 8 ≠ g := by
  obtain ⟨f1, f2, f3⟩ := ff_sp (fun i => decide (pA st tc D a0 i % 8 = g)) 40
  have hno : ∀ j, j < wS st tc D g a0 → pA st tc D a0 j % 8 ≠ g := by
    intro j hj
    have := f2 j hj
    simpa using this
  have h27 : wS st tc D g a0 ≤ 27 := by
    obtain ⟨h1, h2, h3, h4, h5⟩ := pA_sp hD ha hs hf (wS st tc D g a0) hno
    have := rk_27 (D := D) hk.2.1 ha hs
    omega
  refine ⟨h27, ?_, hno⟩
  have := f3 (show wS st tc D g a0 < 40 from by omega)
  exact of_decide_eq_true this
/-- the least beginning: what it costs, where to -/
def wB (st D : Nat → Nat) (x : Nat) : Nat → Nat × Nat := acc (fun z p => if 0 < st (8 * x + z) ∧ 100 * st (8 * x + z) + 1 + D (8 * x + z) < p.1 then (100 * st (8 * x + z) + 1 + D (8 * x + z), z) else p) (100000000, 0)
/-- the first way from x to g: whether there is one, its cost, how many crossings, which -/
noncomputable def wC (st tc : Nat → Nat) (g x : Nat) : Nat := if x = g then 0 else (wB st (wD st tc g) x 8).1
noncomputable def wL (st tc : Nat → Nat) (g x : Nat) : Nat := if x = g then 1 else wS st tc (wD st tc g) g (8 * x + (wB st (wD st tc g) x 8).2) + 2
noncomputable def wR (st tc : Nat → Nat) (g x : Nat) : Nat → Nat
  | 0 => x
  | i + 1 => pA st tc (wD st tc g) (8 * x + (wB st (wD st tc g) x 8).2) i % 8
theorem wB_sp (st D : Nat → Nat) (x : Nat) : ∀ k, (wB st D x k).1 ≤ 100000000 ∧ (∀ z, z < k → 0 < st (8 * x + z) → (wB st D x k).1 ≤ 100 * st (8 * x + z) + 1 + D (8 * x + z)) ∧ ((wB st D x k).1 < 100000000 → (wB st D x k).2 < k ∧ 0 < st (8 * x + (wB st D x k).2) ∧ (wB st D x k).1 = 100 * st (8 * x + (wB st D x k).2) + 1 + D (8 * x + (wB st D x k).2)) := by
  intro k
  induction k with
  | zero => exact ⟨Nat.le_refl _, fun z hz => absurd hz (Nat.not_lt_zero _), fun h => absurd h (Nat.lt_irrefl _)⟩
  | succ k ih =>
    obtain ⟨h1, h2, h3⟩ := ih
    have e : wB st D x (k + 1) = if 0 < st (8 * x + k) ∧ 100 * st (8 * x + k) + 1 + D (8 * x + k) < (wB st D x k).1 then (100 * st (8 * x + k) + 1 + D (8 * x + k), k) else wB st D x k := rfl
    by_cases hc : 0 < st (8 * x + k) ∧ 100 * st (8 * x + k) + 1 + D (8 * x + k) < (wB st D x k).1
    · rw [if_pos hc] at e
      rw [e]
      refine ⟨by show 100 * st (8 * x + k) + 1 + D (8 * x + k) ≤ _; omega, fun z hz hs => ?_, fun _ => ⟨Nat.lt_succ_self k, hc.1, rfl⟩⟩
      show 100 * st (8 * x + k) + 1 + D (8 * x + k) ≤ _
      by_cases hzk : z = k
      · rw [hzk]; exact Nat.le_refl _
      · have := h2 z (by omega) hs
        omega
    · rw [if_neg hc] at e
      rw [e]
      refine ⟨h1, fun z hz hs => ?_, fun h => ?_⟩
      · by_cases hzk : z = k
        · rw [hzk] at hs ⊢
          exact Nat.le_of_not_lt (fun hl => hc ⟨hs, hl⟩)
        · exact h2 z (by omega) hs
      · obtain ⟨q1, q2, q3⟩ := h3 h
        exact ⟨by omega, q2, q3⟩
