/-! the class's ways: its costs against those of the reference; first ways -/
def cv (d : Nat) : Nat := d / 1000000 * 1000000 + d % 1000000 / 100 * 1000 + d % 100
def cC (st D : Nat → Nat) (a : Nat) : Nat := if D a < 100000000 then 1000 * st a + 1 + cv (D a) else 1000000000
theorem cv_d {b l s : Nat} (hl : l ≤ 5000) (hs : s < 100) : cv (1000000 * b + 100 * l + s) = 1000000 * b + 1000 * l + s := by
  unfold cv
  have h1 : (1000000 * b + 100 * l + s) / 1000000 = b := by omega
  have h2 : (1000000 * b + 100 * l + s) % 1000000 / 100 = l := by omega
  have h3 : (1000000 * b + 100 * l + s) % 100 = s := by omega
  rw [h1, h2, h3]
  omega
theorem cv_le {b l s b' l' s' : Nat} (hl : l ≤ 500) (hs : s < 100) (hl' : l' ≤ 500) (hs' : s' < 100) : 1000000 * b + 100 * l + s ≤ 1000000 * b' + 100 * l' + s' ↔ 1000000 * b + 1000 * l + s ≤ 1000000 * b' + 1000 * l' + s' := by
  rcases Nat.lt_trichotomy b b' with h | h | h
  · constructor <;> intro _ <;> omega
  · subst h
    rcases Nat.lt_trichotomy l l' with h2 | h2 | h2
    · constructor <;> intro _ <;> omega
    · subst h2
      constructor <;> intro _ <;> omega
    · constructor <;> intro _ <;> omega
  · constructor <;> intro _ <;> omega
section CW
variable {st tc D : Nat → Nat} {g : Nat}
theorem cC_b (hD : isD st tc g D) (hk : stok st tc) {a : Nat} (ha : a < 64) (hs : 0 < st a) : cC st D a ≤ 1000000000 ∧ (D a < 100000000 → cC st D a ≤ 30000000 ∧ cC st D a = 1000 * st a + 1 + cv (D a)) ∧ (¬ D a < 100000000 → cC st D a = 1000000000) ∧ (D a < 100000000 → cv (D a) ≤ 29000000) := by
  unfold cC
  by_cases hf : D a < 100000000
  · rw [if_pos hf]
    obtain ⟨b, l, s, e1, e2, e3, e4⟩ := dig28 hD hk ha hs hf
    have h1 : cv (D a) = 1000000 * b + 1000 * l + s := by rw [e1]; exact cv_d (by omega) (by omega)
    have h2 := hk.1 a ha
    exact ⟨by omega, fun _ => ⟨by omega, rfl⟩, fun h => absurd hf h, fun _ => by omega⟩
  · rw [if_neg hf]
    exact ⟨Nat.le_refl _, fun h => absurd h hf, fun _ => rfl, fun h => absurd h hf⟩
/-- an arc's cost against what it costs by a turn -/
theorem cC_t (hD : isD st tc g D) (hk : stok st tc) {a z : Nat} (ha : a < 64) (hs : 0 < st a) (hz : z < 8) (hb : 0 < st (8 * (a % 8) + z)) (htc : tc (8 * a + z) ≤ 1000000) : cC st D a ≤ 1000 * st a + 1 + (tc (8 * a + z) + cC st D (8 * (a % 8) + z)) ∧ (D a < 100000000 → a % 8 ≠ g → cv (D a) ≤ tc (8 * a + z) + cC st D (8 * (a % 8) + z) ∧ (tc (8 * a + z) + cC st D (8 * (a % 8) + z) = cv (D a) ↔ nxp st tc D a z = true)) := by
  obtain ⟨d1, d2, d3⟩ := hD a ha hs
  obtain ⟨b1, b2, b3, b4⟩ := cC_b hD hk ha hs
  have hbb : 8 * (a % 8) + z < 64 := by omega
  obtain ⟨q1, q2, q3, q4⟩ := cC_b hD hk hbb hb
  have h9 := hk.1 _ hbb
  have hnx : nxp st tc D a z = true ↔ D (8 * (a % 8) + z) < 100000000 ∧ sC st tc D a z = D a := by
    unfold nxp
    rw [Bool.and_eq_true, Bool.and_eq_true, decide_eq_true_eq, decide_eq_true_eq, decide_eq_true_eq]
    exact ⟨fun h => h.2, fun h => ⟨hb, h⟩⟩
  by_cases hf : D (8 * (a % 8) + z) < 100000000
  · obtain ⟨e1, e2⟩ := q2 hf
    obtain ⟨b, l, s, f1, f2, f3, f4⟩ := dig28 hD hk hbb hb hf
    have hcb : cv (D (8 * (a % 8) + z)) = 1000000 * b + 1000 * l + s := by rw [f1]; exact cv_d (by omega) (by omega)
    have ht : ∃ u, u ≤ 1 ∧ tc (8 * a + z) = 1000000 * u := by
      rcases hk.2.2 (8 * a + z) (by omega) with h | h | h
      · exact ⟨0, by omega, by omega⟩
      · exact ⟨1, by omega, by omega⟩
      · omega
    obtain ⟨u, hu, hu2⟩ := ht
    have hsc : sC st tc D a z = 1000000 * (b + u) + 100 * (l + st (8 * (a % 8) + z)) + (s + 1) := by unfold sC; omega
    by_cases hg : a % 8 = g
    · have h0 := d2 hg
      obtain ⟨g1, g2⟩ := b2 (by omega)
      refine ⟨?_, fun _ h => absurd hg h⟩
      rw [h0] at g2
      have : cv 0 = 0 := rfl
      omega
    · have h1 := (d3 hg).1 z hz hb (by omega)
      have hfa : D a < 100000000 := by omega
      obtain ⟨g1, g2⟩ := b2 hfa
      obtain ⟨b', l', s', k1, k2, k3, k4⟩ := dig28 hD hk ha hs hfa
      have hca : cv (D a) = 1000000 * b' + 1000 * l' + s' := by rw [k1]; exact cv_d (by omega) (by omega)
      rw [hsc, k1] at h1
      have h2 := (cv_le (b := b') (l := l') (s := s') (b' := b + u) (l' := l + st (8 * (a % 8) + z)) (s' := s + 1) (by omega) (by omega) (by omega) (by omega)).mp h1
      have h3 := cv_le (b := b + u) (l := l + st (8 * (a % 8) + z)) (s := s + 1) (b' := b') (l' := l') (s' := s') (by omega) (by omega) (by omega) (by omega)
      refine ⟨by omega, fun _ _ => ⟨by omega, ?_⟩⟩
      rw [hnx, hsc]
      constructor
      · intro h4
        have h5 := h3.mpr (by omega)
        exact ⟨hf, by omega⟩
      · rintro ⟨_, h4⟩
        have h5 := h3.mp (by omega)
        omega
  · have e1 := q3 hf
    refine ⟨by omega, fun hfa hg => ⟨by have := b4 hfa; omega, ?_⟩⟩
    rw [hnx]
    have := b4 hfa
    constructor
    · intro h; omega
    · rintro ⟨h, _⟩; exact absurd h hf
/-- by which turn an arc's cost is borne -/
theorem cC_a (hD : isD st tc g D) (hk : stok st tc) {a : Nat} (ha : a < 64) (hs : 0 < st a) (hf : D a < 100000000) (hg : a % 8 ≠ g) : ∃ z, z < 8 ∧ 0 < st (8 * (a % 8) + z) ∧ tc (8 * a + z) ≤ 1000000 ∧ D (8 * (a % 8) + z) < D a ∧ cC st D a = 1000 * st a + 1 + (tc (8 * a + z) + cC st D (8 * (a % 8) + z)) := by
  obtain ⟨n1, n2, n3, n4, n5⟩ := nxt_sp hD ha hs hf hg
  have htc : tc (8 * a + nxt st tc D a) ≤ 1000000 := by
    unfold sC at n4
    rcases hk.2.2 (8 * a + nxt st tc D a) (by omega) with h | h | h <;> omega
  refine ⟨nxt st tc D a, n1, n2, htc, n3, ?_⟩
  have h1 := ((cC_t hD hk ha hs n1 n2 htc).2 hf hg).2.mpr (by
    unfold nxp
    rw [decide_eq_true n2, decide_eq_true (show D (8 * (a % 8) + nxt st tc D a) < 100000000 from by omega), decide_eq_true n4]; rfl)
  have h2 := ((cC_b hD hk ha hs).2.1 hf).2
  omega
theorem rk_0 (hD : isD st tc g D) {a : Nat} (ha : a < 64) (hs : 0 < st a) (hf : D a < 100000000) (h : cn (rkp st D (D a)) 64 ≤ 0) : a % 8 = g := by
  by_cases hg : a % 8 = g
  · exact hg
  · obtain ⟨n1, n2, n3, n4, n5⟩ := nxt_sp hD ha hs hf hg
    have := rk_lt (st := st) (D := D) (show 8 * (a % 8) + nxt st tc D a < 64 from by omega) n2 n3
    omega
/-- costs that no turn betters are least -/
theorem cC_s (hD : isD st tc g D) (hk : stok st tc) {C : Nat → Nat} (hlo : ∀ a, a < 64 → 0 < st a → cC st D a ≤ C a ∧ C a ≤ 1000000000) (hgo : ∀ a, a < 64 → 0 < st a → a % 8 = g → C a = cC st D a) (hst : ∀ a z, a < 64 → 0 < st a → z < 8 → 0 < st (8 * (a % 8) + z) → tc (8 * a + z) ≤ 1000000 → C a ≤ 1000 * st a + 1 + (tc (8 * a + z) + C (8 * (a % 8) + z))) : ∀ a, a < 64 → 0 < st a → C a = cC st D a := by
  have key : ∀ v a, a < 64 → 0 < st a → D a = v → D a < 100000000 → C a = cC st D a := by
    intro v
    induction v using Nat.strongRecOn with
    | ind v ih =>
      intro a ha hs hv hf
      by_cases hg : a % 8 = g
      · exact hgo a ha hs hg
      · obtain ⟨z, hz, hb, htc, hl, he⟩ := cC_a hD hk ha hs hf hg
        have h1 := ih (D (8 * (a % 8) + z)) (by omega) (8 * (a % 8) + z) (by omega) hb rfl (by omega)
        have h2 := hst a z ha hs hz hb htc
        have h3 := hlo a ha hs
        omega
  intro a ha hs
  by_cases hf : D a < 100000000
  · exact key _ a ha hs rfl hf
  · have h1 := (cC_b hD hk ha hs).2.2.1 hf
    have h2 := hlo a ha hs
    omega
end CW
/-- what a turn costs by uses and mode (0 by uses, 1 by buying, 2 bare) -/
def tcm (nw : Nat → Nat) (m : Nat) (k : Nat) : Nat := if 0 < nw k ∨ m = 2 then 0 else if m = 1 then 1000000 else 100000000
theorem tcm_0 (nw : Nat → Nat) : tcm nw 0 = tcf nw 0 := by
  funext k
  unfold tcm tcf
  by_cases h : 0 < nw k
  · rw [if_pos (Or.inl h), if_pos h]
  · rw [if_neg (by omega), if_neg h]
theorem tcm_1 (nw : Nat → Nat) : tcm nw 1 = tcf nw 1 := by
  funext k
  unfold tcm tcf
  by_cases h : 0 < nw k
  · rw [if_pos (Or.inl h), if_pos h]
  · rw [if_neg (by omega), if_neg h]
theorem tcm_2 (nw : Nat → Nat) : tcm nw 2 = tcf (fun _ => 1) 0 := by
  funext k
  unfold tcm tcf
  rw [if_pos (Or.inr rfl), if_pos Nat.one_pos]
theorem tcm_ok (nw : Nat → Nat) (m : Nat) : tcok (tcm nw m) := by
  intro k _
  unfold tcm
  split
  · exact Or.inl rfl
  · split
    · exact Or.inr (Or.inl rfl)
    · exact Or.inr (Or.inr rfl)
theorem tB_i {t : tw} {k : Nat} : tB t k = true ↔ 0 < t 1 (k / 8) ∧ 0 < t 1 (k % 64) := by
  unfold tB
  rw [Bool.and_eq_true, decide_eq_true_eq, decide_eq_true_eq]
theorem km1 {n : Nat} (h : n < 2147483648) : (nI n = (-1 : Int32)) = False := by
  refine eq_false (fun he => ?_)
  have := congrArg Int32.toInt he
  rw [nI_toInt h] at this
  have h2 : (-1 : Int32).toInt = -1 := by decide
  omega
