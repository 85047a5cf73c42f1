/-! the reference's greatest flow -/
def mvE (st c f : Nat → Nat) (x : Nat) (sn : Nat → Bool) (r : Nat → Nat) (a b ra : Nat) : Prop := (b = a ∧ rS st x a) ∨ (sn b = true ∧ r b < ra ∧ rF c f b a)
theorem mvE_u {st c f : Nat → Nat} {x : Nat} {sn : Nat → Bool} {r : Nat → Nat} {a b ra p z : Nat} (h : mvE st c f x sn r a b ra) (hp : sn p = false) : mvE st c f x (va_up sn p true) (va_up r p z) a b ra := by
  rcases h with h | ⟨h1, h2, h3⟩
  · exact Or.inl h
  · have hn : b ≠ p := fun he => by rw [he, hp] at h1; cases h1
    exact Or.inr ⟨by rw [up_n hn]; exact h1, by rw [up_n hn]; exact h2, h3⟩
def mvS (t : tw) (x : Nat) (f : Nat → Nat) (I : Nat → Nat → Int32) (z : Nat) (sn : Nat → Bool) (q r v : Nat → Nat) (J : Nat → Nat → Int32) : Prop := fr [91, 92] [] I J ∧ (∀ a, a < 64 → sn a = false → J 91 a = (-1 : Int32)) ∧ (∀ i, i < z → J 92 i = nI (q i)) ∧ bfs (rS (t 1) x) (rF (t 3) f) sn q z ∧ ∀ a, a < 64 → sn a = true → r a < z ∧ v a < 64 ∧ J 91 a = nI (v a) ∧ mvE (t 1) (t 3) f x sn r a (v a) (r a)
theorem mvS_u {t : tw} {x : Nat} {f : Nat → Nat} {I : Nat → Nat → Int32} {z : Nat} {sn : Nat → Bool} {q r v : Nat → Nat} {J : Nat → Nat → Int32} {a b : Nat} (h : mvS t x f I z sn q r v J) (ha : a < 64) (hb : b < 64) (hn : sn a = false) (hv : mvE (t 1) (t 3) f x sn r a b z) : mvS t x f I (z + 1) (va_up sn a true) (va_up q z a) (va_up r a z) (va_up v a b) (va_up (va_up J 91 (va_up (J 91) a (nI b))) 92 (va_up (J 92) z (nI a))) := by
  obtain ⟨h1, h2, h3, h5, h6⟩ := h
  have hrc : RC (rS (t 1) x) (rF (t 3) f) a := by
    rcases hv with h | ⟨g1, g2, g3⟩
    · exact RC_0 h.2
    · exact RC_1 (h5.2.2.2 b hb g1) g3
  refine ⟨fr_up (fr_up h1 rfl) rfl, fun p hp hs => ?_, fun i hi => ?_, bfs_u h5 ha hn hrc, fun p hp hs => ?_⟩
  · show va_up (J 91) a (nI b) p = _
    by_cases he : p = a
    · rw [he, up_s] at hs; cases hs
    · rw [up_n he] at hs
      rw [up_n he]; exact h2 p hp hs
  · show va_up (J 92) z (nI a) i = _
    by_cases he : i = z
    · rw [he, up_s, up_s]
    · rw [up_n he, up_n he]; exact h3 i (by omega)
  · show va_up r a z p < z + 1 ∧ va_up v a b p < 64 ∧ va_up (J 91) a (nI b) p = nI (va_up v a b p) ∧ _
    by_cases he : p = a
    · rw [he, up_s, up_s, up_s]
      exact ⟨by omega, hb, rfl, mvE_u hv hn⟩
    · rw [up_n he] at hs
      obtain ⟨g1, g2, g3, g4⟩ := h6 p hp hs
      rw [up_n he, up_n he, up_n he]
      exact ⟨by omega, g2, g3, mvE_u g4 hn⟩
theorem mvS_i {t : tw} {x : Nat} {f : Nat → Nat} {I : Nat → Nat → Int32} {z : Nat} {sn : Nat → Bool} {q r v : Nat → Nat} {J : Nat → Nat → Int32} {a : Nat} (h : mvS t x f I z sn q r v J) (ha : a < 64) : (J 91 a = (-1 : Int32)) = (sn a = false) := by
  refine propext ⟨fun hm => ?_, h.2.1 a ha⟩
  cases hs : sn a with
  | false => rfl
  | true =>
    obtain ⟨g1, g2, g3, g4⟩ := h.2.2.2.2 a ha hs
    rw [g3, km1 (by omega)] at hm
    exact hm.elim
theorem up_t {sn : Nat → Bool} {a b : Nat} (h : sn b = true) : va_up sn a true b = true := by
  by_cases he : b = a
  · rw [he, up_s]
  · rw [up_n he]; exact h
theorem c_seeks {e : am_V} {I : Nat → Nat → Int32} {L : Nat → Nat → Int64} {Q : Int32 → (Nat → Nat → Int32) → Prop} {t : tw} {x g : Nat} {f : Nat → Nat} (hM : MT t I) (hk : tok t) (hf : ∀ k, k < 512 → I 90 k = nI (f k)) (hb : ∀ k, k < 512 → f k ≤ t 3 k) (hx : x < 8) (hg : g < 8) (hQ1 : ∀ J (sn : Nat → Bool), fr [91, 92] [] I J → (∀ a, a < 64 → (J 91 a = (-1 : Int32)) = (sn a = false)) → (∀ a, a < 64 → (sn a = true ↔ RC (rS (t 1) x) (rF (t 3) f) a)) → (∀ a, a < 64 → sn a = true → a % 8 ≠ g) → Q (-1 : Int32) J) (hQ2 : ∀ z sn q r v J a, mvS t x f I z sn q r v J → a < 64 → sn a = true → a % 8 = g → Q (nI a) J) : C_X11_seeks_73 e (nI x) (nI g) I L Q := by
  have hrE : ∀ a b, rF (t 3) f a b → a < 64 ∧ b < 64 := fun a b h => ⟨h.1, h.2.1⟩
  have hw := tok_nw hk
  have hk2 := hk
  obtain ⟨o0, oT, oZ, oY, oD, o9, oN, o28, oB, oX, oE, oF, oA, oH, oU, oV⟩ := hk2
  have h95 : ∀ m k z sn q r v J, 64 - k = m → k ≤ z → mvS t x f I z sn q r v J → (∀ s, rS (t 1) x s → sn s = true) → bfC (rF (t 3) f) sn q k → (∀ i, i < k → q i % 8 ≠ g) → T_X11_seeks_73_p95 e (nI g) (nI z) (nI k) J L Q := by
    intro m
    induction m using Nat.strongRecOn with
    | ind m ih =>
      intro k z sn q r v J hm hkz h hS hCl hno
      have hz := bfs_le h.2.2.2.1
      refine b_X11_seeks_73_p95 ?_
      by_cases hkz2 : k = z
      · have q1 : (z ≤ k) = True := eq_true (by omega)
        simp (disch := omega) only [pk_mul, nI_add, ksub, kdv, kd8, kd64, kd2, kd3, km8, km64, kt8, ke8, ke64, kcl, kin, kle, klt, keq, up_s, up_n, up_u, true_and, and_true, false_implies, true_implies, not_false_eq_true, not_true_eq_false, q1]
        refine hQ1 J sn h.1 (fun a ha => mvS_i h ha) (fun a ha => bfs_e h.2.2.2.1 hrE (fun s hs => ⟨hs.1, hS s hs⟩) (by rw [← hkz2]; exact hCl) ha) (fun a ha hs => ?_)
        obtain ⟨i, hi, hqi⟩ := h.2.2.2.1.2.2.1 a ha hs
        rw [← hqi]
        exact hno i (by omega)
      · have q1 : (z ≤ k) = False := eq_false (by omega)
        have e92 := h.2.2.1 k (by omega)
        obtain ⟨hq64, hqs⟩ := h.2.2.2.1.2.1 k (by omega)
        simp (disch := omega) only [pk_mul, nI_add, ksub, kdv, kd8, kd64, kd2, kd3, km8, km64, kt8, ke8, ke64, kcl, kin, kle, klt, keq, up_s, up_n, up_u, true_and, and_true, false_implies, true_implies, not_false_eq_true, not_true_eq_false, q1, e92]
        refine ⟨fun hqg => hQ2 z sn q r v J (q k) h hq64 hqs hqg, fun hqg => ?_⟩
        generalize hak : q k = a at hq64 hqs hqg
        have hsa : 0 < t 1 a := cv_st hk hb (h.2.2.2.1.2.2.2 a hq64 hqs)
        have hne8 : a / 8 ≠ a % 8 := by
          intro he
          have := oD (a / 8) (by omega)
          rw [show 8 * (a / 8) + a / 8 = a from by omega] at this
          omega
        refine lp_ux (n := t 0 0) (N := 8) (S := Nat × (Nat → Bool) × (Nat → Nat) × (Nat → Nat) × (Nat → Nat) × (Nat → Nat → Int32)) (T := fun y s => T_X11_seeks_73_p125 e (nI g) (nI s.1) (nI k) (nI a) (nI y) s.2.2.2.2.2 L Q) (fun y s => mvS t x f I s.1 s.2.1 s.2.2.1 s.2.2.2.1 s.2.2.2.2.1 s.2.2.2.2.2 ∧ z ≤ s.1 ∧ (∀ b, sn b = true → s.2.1 b = true) ∧ (∀ i, i < z → s.2.2.1 i = q i) ∧ (∀ y', y' < y → f (8 * a + y') < t 3 (8 * a + y') → s.2.1 (8 * (a % 8) + y') = true) ∧ (∀ y', y' < y → 0 < f (64 * y' + a) → s.2.1 (8 * y' + a / 8) = true)) o0 ?_ ?_ ?_ (z, sn, q, r, v, J) ⟨h, Nat.le_refl _, fun _ h => h, fun _ _ => rfl, fun y' h => absurd h (Nat.not_lt_zero _), fun y' h => absurd h (Nat.not_lt_zero _)⟩
        · rintro y ⟨z1, sn1, q1, r1, v1, J1⟩ hy1 hy2 ⟨i1, i2, i3, i4, i5, i6⟩
          refine ⟨i1, i2, i3, i4, fun y' hy' h2 => ?_, fun y' hy' h2 => ?_⟩
          · by_cases he : y' = y
            · rw [he] at h2
              have h5 := (tB_i.mp (t3_pos hk (k := 8 * a + y) (by omega) (by omega))).2
              rw [show (8 * a + y) % 64 = 8 * (a % 8) + y from by omega] at h5
              have := (oN (a % 8) (by omega) y hy2 h5).2
              omega
            · exact i5 y' (by omega) h2
          · by_cases he : y' = y
            · rw [he] at h2
              have h0 := hb (64 * y + a) (by omega)
              have h5 := (tB_i.mp (t3_pos hk (k := 64 * y + a) (by omega) (by omega))).1
              rw [show (64 * y + a) / 8 = 8 * y + a / 8 from by omega] at h5
              have := (oN y hy2 (a / 8) (by omega) h5).1
              omega
            · exact i6 y' (by omega) h2
        · rintro y ⟨z1, sn1, q1, r1, v1, J1⟩ hy ⟨i1, i2, i3, i4, i5, i6⟩ hnext
          dsimp only at i1 i2 i3 i4 i5 i6
          have hz1 := bfs_le i1.2.2.2.1
          have MJ := fr_MT i1.1 hM rfl
          have m1J := MJ.2.1
          have e81a := MJ.2.2.2.2.2.2.1 (8 * (a % 8) + y) (by omega)
          have e81b := MJ.2.2.2.2.2.2.1 (8 * y + a / 8) (by omega)
          have e83 := MJ.2.2.2.2.2.2.2.2.1 (8 * a + y) (by omega)
          have e90a : J1 90 (8 * a + y) = nI (f (8 * a + y)) := by rw [i1.1.1 90 (by decide) (by decide)]; exact hf _ (by omega)
          have e90b : J1 90 (64 * y + a) = nI (f (64 * y + a)) := by rw [i1.1.1 90 (by decide) (by decide)]; exact hf _ (by omega)
          have b1 := o9 (8 * (a % 8) + y) (by omega)
          have b2 := o9 (8 * y + a / 8) (by omega)
          have b3 := hw (8 * a + y) (by omega)
          have b4 := hb (8 * a + y) (by omega)
          have b5 := hw (64 * y + a) (by omega)
          have b6 := hb (64 * y + a) (by omega)
          have g2 : (t 0 0 ≤ y) = False := eq_false (by omega)
          have qa : 64 * (a / 8) + 8 * (a % 8) + y = 8 * a + y := by omega
          have qb : 64 * y + 8 * (a / 8) + a % 8 = 64 * y + a := by omega
          have e91a := mvS_i (a := 8 * (a % 8) + y) i1 (by omega)
          have e91b := mvS_i (a := 8 * y + a / 8) i1 (by omega)
          have hra := (i1.2.2.2.2 a hq64 (i3 a hqs)).1
          have hsa1 := i3 a hqs
          have hst : ∀ z' sn' q' r' v' J', mvS t x f I z' sn' q' r' v' J' → z1 ≤ z' → (∀ b, sn1 b = true → sn' b = true) → (∀ i, i < z1 → q' i = q1 i) → (f (8 * a + y) < t 3 (8 * a + y) → sn' (8 * (a % 8) + y) = true) → (0 < f (64 * y + a) → sn' (8 * y + a / 8) = true) → T_X11_seeks_73_p125 e (nI g) (nI z') (nI k) (nI a) (nI (y + 1)) J' L Q := by
            intro z' sn' q' r' v' J' s1 s2 s3 s4 s5 s6
            refine hnext (z', sn', q', r', v', J') ⟨s1, Nat.le_trans i2 s2, fun b hb => s3 b (i3 b hb), fun i hi => (s4 i (by omega)).trans (i4 i hi), fun y' hy' h2 => ?_, fun y' hy' h2 => ?_⟩
            · by_cases he : y' = y
              · rw [he] at h2 ⊢; exact s5 h2
              · exact s3 _ (i5 y' (by omega) h2)
            · by_cases he : y' = y
              · rw [he] at h2 ⊢; exact s6 h2
              · exact s3 _ (i6 y' (by omega) h2)
          have hnoA : t 1 (8 * (a % 8) + y) ≤ 0 → f (8 * a + y) < t 3 (8 * a + y) → False := fun h1 h2 => by
            have h5 := (tB_i.mp (t3_pos hk (k := 8 * a + y) (by omega) (by omega))).2
            rw [show (8 * a + y) % 64 = 8 * (a % 8) + y from by omega] at h5
            omega
          have hnoB : t 1 (8 * y + a / 8) ≤ 0 → 0 < f (64 * y + a) → False := fun h1 h2 => by
            have h5 := (tB_i.mp (t3_pos hk (k := 64 * y + a) (by omega) (by omega))).1
            rw [show (64 * y + a) / 8 = 8 * y + a / 8 from by omega] at h5
            omega
          have hEa : ¬ t 3 (8 * a + y) ≤ f (8 * a + y) → rF (t 3) f a (8 * (a % 8) + y) := fun hc => ⟨hq64, by omega, Or.inl ⟨by omega, by rw [show 8 * a + (8 * (a % 8) + y) % 8 = 8 * a + y from by omega]; omega⟩⟩
          have hEb : ¬ f (64 * y + a) ≤ 0 → rF (t 3) f a (8 * y + a / 8) := fun hc => ⟨hq64, by omega, Or.inr ⟨by omega, by rw [show 8 * (8 * y + a / 8) + a % 8 = 64 * y + a from by omega]; omega⟩⟩
          refine b_X11_seeks_73_p125 ?_
          by_cases hA : t 1 (8 * (a % 8) + y) ≤ 0
          · have qA := eq_true hA
            by_cases hD : t 1 (8 * y + a / 8) ≤ 0
            · have qD := eq_true hD
              simp (disch := omega) only [pk_mul, nI_add, ksub, kdv, kd8, kd64, kd2, kd3, km8, km64, kt8, ke8, ke64, kcl, kin, kle, klt, keq, up_s, up_n, up_u, true_and, and_true, false_implies, true_implies, not_false_eq_true, not_true_eq_false, m1J, g2, e81a, e81b, e83, e90a, e90b, e91a, e91b, qa, qb, qA, qD]
              exact hst z1 sn1 q1 r1 v1 J1 i1 (Nat.le_refl _) (fun _ h => h) (fun _ _ => rfl) (fun h => (hnoA hA h).elim) (fun h => (hnoB hD h).elim)
            · have qD := eq_false hD
              cases hE : sn1 (8 * y + a / 8) with
              | true =>
                have hsb2 := hE
                have qE : (sn1 (8 * y + a / 8) = false) = False := eq_false (by rw [hE]; decide)
                simp (disch := omega) only [pk_mul, nI_add, ksub, kdv, kd8, kd64, kd2, kd3, km8, km64, kt8, ke8, ke64, kcl, kin, kle, klt, keq, up_s, up_n, up_u, true_and, and_true, false_implies, true_implies, not_false_eq_true, not_true_eq_false, m1J, g2, e81a, e81b, e83, e90a, e90b, e91a, e91b, qa, qb, qA, qD, qE]
                exact hst z1 sn1 q1 r1 v1 J1 i1 (Nat.le_refl _) (fun _ h => h) (fun _ _ => rfl) (fun h => (hnoA hA h).elim) (fun _ => hsb2)
              | false =>
                have qE : (sn1 (8 * y + a / 8) = false) = True := eq_true hE
                by_cases hF : f (64 * y + a) ≤ 0
                · have qF := eq_true hF
                  simp (disch := omega) only [pk_mul, nI_add, ksub, kdv, kd8, kd64, kd2, kd3, km8, km64, kt8, ke8, ke64, kcl, kin, kle, klt, keq, up_s, up_n, up_u, true_and, and_true, false_implies, true_implies, not_false_eq_true, not_true_eq_false, m1J, g2, e81a, e81b, e83, e90a, e90b, e91a, e91b, qa, qb, qA, qD, qE, qF]
                  exact hst z1 sn1 q1 r1 v1 J1 i1 (Nat.le_refl _) (fun _ h => h) (fun _ _ => rfl) (fun h => (hnoA hA h).elim) (fun h => absurd h (by omega))
                · have qF := eq_false hF
                  have hz2 := bfs_lt i1.2.2.2.1 (show 8 * y + a / 8 < 64 from by omega) hE
                  simp (disch := omega) only [pk_mul, nI_add, ksub, kdv, kd8, kd64, kd2, kd3, km8, km64, kt8, ke8, ke64, kcl, kin, kle, klt, keq, up_s, up_n, up_u, true_and, and_true, false_implies, true_implies, not_false_eq_true, not_true_eq_false, m1J, g2, e81a, e81b, e83, e90a, e90b, e91a, e91b, qa, qb, qA, qD, qE, qF]
                  exact hst _ _ _ _ _ _ (mvS_u i1 (show 8 * y + a / 8 < 64 from by omega) hq64 hE (Or.inr ⟨hsa1, hra, hEb hF⟩)) (Nat.le_succ _) (fun _ h => up_t h) (fun i hi => up_n (by omega)) (fun h => (hnoA hA h).elim) (fun _ => up_s)
          · have qA := eq_false hA
            cases hB : sn1 (8 * (a % 8) + y) with
            | true =>
              have hsb1 := hB
              have qB : (sn1 (8 * (a % 8) + y) = false) = False := eq_false (by rw [hB]; decide)
              by_cases hD : t 1 (8 * y + a / 8) ≤ 0
              · have qD := eq_true hD
                simp (disch := omega) only [pk_mul, nI_add, ksub, kdv, kd8, kd64, kd2, kd3, km8, km64, kt8, ke8, ke64, kcl, kin, kle, klt, keq, up_s, up_n, up_u, true_and, and_true, false_implies, true_implies, not_false_eq_true, not_true_eq_false, m1J, g2, e81a, e81b, e83, e90a, e90b, e91a, e91b, qa, qb, qA, qB, qD]
                exact hst z1 sn1 q1 r1 v1 J1 i1 (Nat.le_refl _) (fun _ h => h) (fun _ _ => rfl) (fun _ => hsb1) (fun h => (hnoB hD h).elim)
              · have qD := eq_false hD
                cases hE : sn1 (8 * y + a / 8) with
                | true =>
                  have hsb2 := hE
                  have qE : (sn1 (8 * y + a / 8) = false) = False := eq_false (by rw [hE]; decide)
                  simp (disch := omega) only [pk_mul, nI_add, ksub, kdv, kd8, kd64, kd2, kd3, km8, km64, kt8, ke8, ke64, kcl, kin, kle, klt, keq, up_s, up_n, up_u, true_and, and_true, false_implies, true_implies, not_false_eq_true, not_true_eq_false, m1J, g2, e81a, e81b, e83, e90a, e90b, e91a, e91b, qa, qb, qA, qB, qD, qE]
                  exact hst z1 sn1 q1 r1 v1 J1 i1 (Nat.le_refl _) (fun _ h => h) (fun _ _ => rfl) (fun _ => hsb1) (fun _ => hsb2)
                | false =>
                  have qE : (sn1 (8 * y + a / 8) = false) = True := eq_true hE
                  by_cases hF : f (64 * y + a) ≤ 0
                  · have qF := eq_true hF
                    simp (disch := omega) only [pk_mul, nI_add, ksub, kdv, kd8, kd64, kd2, kd3, km8, km64, kt8, ke8, ke64, kcl, kin, kle, klt, keq, up_s, up_n, up_u, true_and, and_true, false_implies, true_implies, not_false_eq_true, not_true_eq_false, m1J, g2, e81a, e81b, e83, e90a, e90b, e91a, e91b, qa, qb, qA, qB, qD, qE, qF]
                    exact hst z1 sn1 q1 r1 v1 J1 i1 (Nat.le_refl _) (fun _ h => h) (fun _ _ => rfl) (fun _ => hsb1) (fun h => absurd h (by omega))
                  · have qF := eq_false hF
                    have hz2 := bfs_lt i1.2.2.2.1 (show 8 * y + a / 8 < 64 from by omega) hE
                    simp (disch := omega) only [pk_mul, nI_add, ksub, kdv, kd8, kd64, kd2, kd3, km8, km64, kt8, ke8, ke64, kcl, kin, kle, klt, keq, up_s, up_n, up_u, true_and, and_true, false_implies, true_implies, not_false_eq_true, not_true_eq_false, m1J, g2, e81a, e81b, e83, e90a, e90b, e91a, e91b, qa, qb, qA, qB, qD, qE, qF]
                    exact hst _ _ _ _ _ _ (mvS_u i1 (show 8 * y + a / 8 < 64 from by omega) hq64 hE (Or.inr ⟨hsa1, hra, hEb hF⟩)) (Nat.le_succ _) (fun _ h => up_t h) (fun i hi => up_n (by omega)) (fun _ => up_t hsb1) (fun _ => up_s)
            | false =>
              have qB : (sn1 (8 * (a % 8) + y) = false) = True := eq_true hB
              by_cases hC : t 3 (8 * a + y) ≤ f (8 * a + y)
              · have qC := eq_true hC
                by_cases hD : t 1 (8 * y + a / 8) ≤ 0
                · have qD := eq_true hD
                  simp (disch := omega) only [pk_mul, nI_add, ksub, kdv, kd8, kd64, kd2, kd3, km8, km64, kt8, ke8, ke64, kcl, kin, kle, klt, keq, up_s, up_n, up_u, true_and, and_true, false_implies, true_implies, not_false_eq_true, not_true_eq_false, m1J, g2, e81a, e81b, e83, e90a, e90b, e91a, e91b, qa, qb, qA, qB, qC, qD]
                  exact hst z1 sn1 q1 r1 v1 J1 i1 (Nat.le_refl _) (fun _ h => h) (fun _ _ => rfl) (fun h => absurd h (by omega)) (fun h => (hnoB hD h).elim)
                · have qD := eq_false hD
                  cases hE : sn1 (8 * y + a / 8) with
                  | true =>
                    have hsb2 := hE
                    have qE : (sn1 (8 * y + a / 8) = false) = False := eq_false (by rw [hE]; decide)
                    simp (disch := omega) only [pk_mul, nI_add, ksub, kdv, kd8, kd64, kd2, kd3, km8, km64, kt8, ke8, ke64, kcl, kin, kle, klt, keq, up_s, up_n, up_u, true_and, and_true, false_implies, true_implies, not_false_eq_true, not_true_eq_false, m1J, g2, e81a, e81b, e83, e90a, e90b, e91a, e91b, qa, qb, qA, qB, qC, qD, qE]
                    exact hst z1 sn1 q1 r1 v1 J1 i1 (Nat.le_refl _) (fun _ h => h) (fun _ _ => rfl) (fun h => absurd h (by omega)) (fun _ => hsb2)
                  | false =>
                    have qE : (sn1 (8 * y + a / 8) = false) = True := eq_true hE
                    by_cases hF : f (64 * y + a) ≤ 0
                    · have qF := eq_true hF
                      simp (disch := omega) only [pk_mul, nI_add, ksub, kdv, kd8, kd64, kd2, kd3, km8, km64, kt8, ke8, ke64, kcl, kin, kle, klt, keq, up_s, up_n, up_u, true_and, and_true, false_implies, true_implies, not_false_eq_true, not_true_eq_false, m1J, g2, e81a, e81b, e83, e90a, e90b, e91a, e91b, qa, qb, qA, qB, qC, qD, qE, qF]
                      exact hst z1 sn1 q1 r1 v1 J1 i1 (Nat.le_refl _) (fun _ h => h) (fun _ _ => rfl) (fun h => absurd h (by omega)) (fun h => absurd h (by omega))
                    · have qF := eq_false hF
                      have hz2 := bfs_lt i1.2.2.2.1 (show 8 * y + a / 8 < 64 from by omega) hE
                      simp (disch := omega) only [pk_mul, nI_add, ksub, kdv, kd8, kd64, kd2, kd3, km8, km64, kt8, ke8, ke64, kcl, kin, kle, klt, keq, up_s, up_n, up_u, true_and, and_true, false_implies, true_implies, not_false_eq_true, not_true_eq_false, m1J, g2, e81a, e81b, e83, e90a, e90b, e91a, e91b, qa, qb, qA, qB, qC, qD, qE, qF]
                      exact hst _ _ _ _ _ _ (mvS_u i1 (show 8 * y + a / 8 < 64 from by omega) hq64 hE (Or.inr ⟨hsa1, hra, hEb hF⟩)) (Nat.le_succ _) (fun _ h => up_t h) (fun i hi => up_n (by omega)) (fun h => absurd h (by omega)) (fun _ => up_s)
              · have qC := eq_false hC
                by_cases hD : t 1 (8 * y + a / 8) ≤ 0
                · have qD := eq_true hD
                  have hne : 8 * y + a / 8 ≠ 8 * (a % 8) + y := by omega
                  have hz2 := bfs_lt i1.2.2.2.1 (show 8 * (a % 8) + y < 64 from by omega) hB
                  simp (disch := omega) only [pk_mul, nI_add, ksub, kdv, kd8, kd64, kd2, kd3, km8, km64, kt8, ke8, ke64, kcl, kin, kle, klt, keq, up_s, up_n, up_u, true_and, and_true, false_implies, true_implies, not_false_eq_true, not_true_eq_false, m1J, g2, e81a, e81b, e83, e90a, e90b, e91a, e91b, qa, qb, qA, qB, qC, qD]
                  exact hst _ _ _ _ _ _ (mvS_u i1 (show 8 * (a % 8) + y < 64 from by omega) hq64 hB (Or.inr ⟨hsa1, hra, hEa hC⟩)) (Nat.le_succ _) (fun _ h => up_t h) (fun i hi => up_n (by omega)) (fun _ => up_s) (fun h => (hnoB hD h).elim)
                · have qD := eq_false hD
                  cases hE : sn1 (8 * y + a / 8) with
                  | true =>
                    have hsb2 := hE
                    have qE : (sn1 (8 * y + a / 8) = false) = False := eq_false (by rw [hE]; decide)
                    have hne : 8 * y + a / 8 ≠ 8 * (a % 8) + y := by omega
                    have hz2 := bfs_lt i1.2.2.2.1 (show 8 * (a % 8) + y < 64 from by omega) hB
                    simp (disch := omega) only [pk_mul, nI_add, ksub, kdv, kd8, kd64, kd2, kd3, km8, km64, kt8, ke8, ke64, kcl, kin, kle, klt, keq, up_s, up_n, up_u, true_and, and_true, false_implies, true_implies, not_false_eq_true, not_true_eq_false, m1J, g2, e81a, e81b, e83, e90a, e90b, e91a, e91b, qa, qb, qA, qB, qC, qD, qE]
                    exact hst _ _ _ _ _ _ (mvS_u i1 (show 8 * (a % 8) + y < 64 from by omega) hq64 hB (Or.inr ⟨hsa1, hra, hEa hC⟩)) (Nat.le_succ _) (fun _ h => up_t h) (fun i hi => up_n (by omega)) (fun _ => up_s) (fun _ => up_t hsb2)
                  | false =>
                    have qE : (sn1 (8 * y + a / 8) = false) = True := eq_true hE
                    by_cases hF : f (64 * y + a) ≤ 0
                    · have qF := eq_true hF
                      have hne : 8 * y + a / 8 ≠ 8 * (a % 8) + y := by omega
                      have hz2 := bfs_lt i1.2.2.2.1 (show 8 * (a % 8) + y < 64 from by omega) hB
                      simp (disch := omega) only [pk_mul, nI_add, ksub, kdv, kd8, kd64, kd2, kd3, km8, km64, kt8, ke8, ke64, kcl, kin, kle, klt, keq, up_s, up_n, up_u, true_and, and_true, false_implies, true_implies, not_false_eq_true, not_true_eq_false, m1J, g2, e81a, e81b, e83, e90a, e90b, e91a, e91b, qa, qb, qA, qB, qC, qD, qE, qF]
                      exact hst _ _ _ _ _ _ (mvS_u i1 (show 8 * (a % 8) + y < 64 from by omega) hq64 hB (Or.inr ⟨hsa1, hra, hEa hC⟩)) (Nat.le_succ _) (fun _ h => up_t h) (fun i hi => up_n (by omega)) (fun _ => up_s) (fun h => absurd h (by omega))
                    · have qF := eq_false hF
                      have hne : 8 * y + a / 8 ≠ 8 * (a % 8) + y := by omega
                      have hz2 := bfs_lt i1.2.2.2.1 (show 8 * (a % 8) + y < 64 from by omega) hB
                      have hu := mvS_u i1 (show 8 * (a % 8) + y < 64 from by omega) hq64 hB (Or.inr ⟨hsa1, hra, hEa hC⟩)
                      have hz3 := bfs_lt hu.2.2.2.1 (a := 8 * y + a / 8) (by omega) (by rw [up_n hne]; exact hE)
                      simp (disch := omega) only [pk_mul, nI_add, ksub, kdv, kd8, kd64, kd2, kd3, km8, km64, kt8, ke8, ke64, kcl, kin, kle, klt, keq, up_s, up_n, up_u, true_and, and_true, false_implies, true_implies, not_false_eq_true, not_true_eq_false, m1J, g2, e81a, e81b, e83, e90a, e90b, e91a, e91b, qa, qb, qA, qB, qC, qD, qE, qF]
                      have hnA : a ≠ 8 * (a % 8) + y := fun he => by rw [← he, hsa1] at hB; cases hB
                      exact hst _ _ _ _ _ _ (mvS_u hu (show 8 * y + a / 8 < 64 from by omega) hq64 (by rw [up_n hne]; exact hE) (Or.inr ⟨up_t hsa1, by rw [up_n hnA]; omega, hEb hF⟩)) (by omega) (fun _ h => up_t (up_t h)) (fun i hi => by rw [up_n (by omega), up_n (by omega)]) (fun _ => up_t up_s) (fun _ => up_s)
        · rintro ⟨z1, sn1, q1, r1, v1, J1⟩ ⟨i1, i2, i3, i4, i5, i6⟩
          dsimp only at i1 i2 i3 i4 i5 i6
          have MJ := fr_MT i1.1 hM rfl
          have m1J := MJ.2.1
          have g2 : (t 0 0 ≤ t 0 0) = True := eq_true (Nat.le_refl _)
          refine b_X11_seeks_73_p125 ?_
          simp (disch := omega) only [pk_mul, nI_add, ksub, kdv, kd8, kd64, kd2, kd3, km8, km64, kt8, ke8, ke64, kcl, kin, kle, klt, keq, up_s, up_n, up_u, true_and, and_true, false_implies, true_implies, not_false_eq_true, not_true_eq_false, m1J, g2]
          refine ih (64 - (k + 1)) (by omega) (k + 1) z1 sn1 q1 r1 v1 J1 rfl (by omega) i1 (fun s hs => i3 s (hS s hs)) (fun i hi b hE => ?_) (fun i hi => ?_)
          · rw [i4 i (by omega)] at hE
            by_cases hik : i = k
            · rw [hik, hak] at hE
              obtain ⟨g1, g2, ⟨g3, g4⟩ | ⟨g3, g4⟩⟩ := hE
              · have h5 := i5 (b % 8) (by omega) g4
                rw [show 8 * (a % 8) + b % 8 = b from by omega] at h5
                exact h5
              · have h5 := i6 (b / 8) (by omega) (by rw [show 64 * (b / 8) + a = 8 * b + a % 8 from by omega]; exact g4)
                rw [show 8 * (b / 8) + a / 8 = b from by omega] at h5
                exact h5
            · exact i3 b (hCl i (by omega) b hE)
          · rw [i4 i (by omega)]
            by_cases hik : i = k
            · rw [hik, hak]; exact hqg
            · exact hno i (by omega)
  refine b_X11_seeks_73 ?_
  have h5 : T_X11_seeks_73_p5 e (nI x) (nI g) (nI 0) (nI 0) (va_up I 91 (I 91)) L Q := by
    refine lp_up (n := 64) (S := Nat → Int32) (T := fun k F => T_X11_seeks_73_p5 e (nI x) (nI g) (nI 0) (nI k) (va_up I 91 F) L Q) (fun k F => ∀ j, j < k → F j = (-1 : Int32)) ?_ ?_ 0 (I 91) (Nat.zero_le _) (fun j h => absurd h (Nat.not_lt_zero _))
    · intro k F hk6 hi hnext
      refine b_X11_seeks_73_p5 ?_
      have hnk : (64 ≤ k) = False := eq_false (by omega)
      simp (disch := omega) only [pk_mul, nI_add, ksub, kdv, kd8, kd64, kd2, kd3, km8, km64, kt8, ke8, ke64, kcl, kin, kle, klt, keq, up_s, up_n, up_u, true_and, and_true, false_implies, true_implies, not_false_eq_true, not_true_eq_false, hnk]
      refine hnext _ (fun j hj => ?_)
      by_cases he : j = k
      · rw [he, up_s]
      · rw [up_n he]; exact hi j (by omega)
    · intro F hi
      refine b_X11_seeks_73_p5 ?_
      have hnn : (64 ≤ 64) = True := eq_true (Nat.le_refl _)
      simp (disch := omega) only [pk_mul, nI_add, ksub, kdv, kd8, kd64, kd2, kd3, km8, km64, kt8, ke8, ke64, kcl, kin, kle, klt, keq, up_s, up_n, up_u, true_and, and_true, false_implies, true_implies, not_false_eq_true, not_true_eq_false, hnn]
      have h0 : mvS t x f I 0 (fun _ => false) (fun _ => 0) (fun _ => 0) (fun _ => 0) (va_up I 91 F) := ⟨fr_up (fr_refl _ _ _) rfl, fun a ha _ => hi a ha, fun i h => absurd h (Nat.not_lt_zero _), bfs_0 _ _ _, fun a _ h => by cases h⟩
      refine lp_ux (n := t 0 0) (N := 8) (S := Nat × (Nat → Bool) × (Nat → Nat) × (Nat → Nat) × (Nat → Nat) × (Nat → Nat → Int32)) (T := fun y s => T_X11_seeks_73_p29 e (nI x) (nI g) (nI s.1) (nI y) s.2.2.2.2.2 L Q) (fun y s => mvS t x f I s.1 s.2.1 s.2.2.1 s.2.2.2.1 s.2.2.2.2.1 s.2.2.2.2.2 ∧ (∀ b, b < 64 → s.2.1 b = true → b < 8 * x + y) ∧ (∀ y', y' < y → 0 < t 1 (8 * x + y') → s.2.1 (8 * x + y') = true)) o0 ?_ ?_ ?_ (0, (fun _ => false), (fun _ => 0), (fun _ => 0), (fun _ => 0), _) ⟨h0, (fun b _ h => by cases h), fun y' h => absurd h (Nat.not_lt_zero _)⟩
      · rintro y ⟨z1, sn1, q1, r1, v1, J1⟩ hy1 hy2 ⟨i1, i2, i5⟩
        dsimp only at i1 i2 i5
        refine ⟨i1, fun b hb hs => by have := i2 b hb hs; omega, fun y' hy' h2 => ?_⟩
        by_cases he : y' = y
        · rw [he] at h2
          have := (oN x hx y hy2 h2).2
          omega
        · exact i5 y' (by omega) h2
      · rintro y ⟨z1, sn1, q1, r1, v1, J1⟩ hy ⟨i1, i2, i5⟩ hnext
        dsimp only at i1 i2 i5
        have hz1 := bfs_le i1.2.2.2.1
        have MJ := fr_MT i1.1 hM rfl
        have m1J := MJ.2.1
        have e81 := MJ.2.2.2.2.2.2.1 (8 * x + y) (by omega)
        have b1 := o9 (8 * x + y) (by omega)
        have g2 : (t 0 0 ≤ y) = False := eq_false (by omega)
        have hns : sn1 (8 * x + y) = false := by
          cases hs : sn1 (8 * x + y) with
          | false => rfl
          | true =>
            have := i2 (8 * x + y) (by omega) hs
            omega
        have hz2 := bfs_lt i1.2.2.2.1 (show 8 * x + y < 64 from by omega) hns
        refine b_X11_seeks_73_p29 ?_
        simp (disch := omega) only [pk_mul, nI_add, ksub, kdv, kd8, kd64, kd2, kd3, km8, km64, kt8, ke8, ke64, kcl, kin, kle, klt, keq, up_s, up_n, up_u, true_and, and_true, false_implies, true_implies, not_false_eq_true, not_true_eq_false, m1J, g2, e81]
        refine ⟨fun h0 => hnext (z1, sn1, q1, r1, v1, J1) ⟨i1, fun b hb hs => by have := i2 b hb hs; show b < 8 * x + (y + 1); omega, fun y' hy' h2 => ?_⟩, fun h0 => hnext (z1 + 1, va_up sn1 (8 * x + y) true, va_up q1 z1 (8 * x + y), va_up r1 (8 * x + y) z1, va_up v1 (8 * x + y) (8 * x + y), _) ⟨mvS_u i1 (by omega) (by omega) hns (Or.inl ⟨rfl, by omega, by omega, by omega⟩), fun b hb hs => ?_, fun y' hy' h2 => ?_⟩⟩
        · by_cases he : y' = y
          · rw [he] at h2; omega
          · exact i5 y' (by omega) h2
        · show b < 8 * x + (y + 1)
          by_cases he : b = 8 * x + y
          · omega
          · have hs2 : sn1 b = true := by
              have hs3 : va_up sn1 (8 * x + y) true b = true := hs
              rw [up_n he] at hs3; exact hs3
            have := i2 b hb hs2
            omega
        · show va_up sn1 _ true _ = true
          by_cases he : y' = y
          · rw [he, up_s]
          · exact up_t (i5 y' (by omega) h2)
      · rintro ⟨z1, sn1, q1, r1, v1, J1⟩ ⟨i1, i2, i5⟩
        dsimp only at i1 i2 i5
        have MJ := fr_MT i1.1 hM rfl
        have m1J := MJ.2.1
        have g2 : (t 0 0 ≤ t 0 0) = True := eq_true (Nat.le_refl _)
        refine b_X11_seeks_73_p29 ?_
        simp (disch := omega) only [pk_mul, nI_add, ksub, kdv, kd8, kd64, kd2, kd3, km8, km64, kt8, ke8, ke64, kcl, kin, kle, klt, keq, up_s, up_n, up_u, true_and, and_true, false_implies, true_implies, not_false_eq_true, not_true_eq_false, m1J, g2]
        refine h95 _ 0 z1 sn1 q1 r1 v1 J1 rfl (Nat.zero_le _) i1 (fun s hs => ?_) (fun i h => absurd h (Nat.not_lt_zero _)) (fun i h => absurd h (Nat.not_lt_zero _))
        have h5 := i5 (s % 8) (by omega)
        obtain ⟨s1, s2, s3⟩ := hs
        rw [show 8 * x + s % 8 = s from by omega] at h5
        exact h5 s3
  rw [up_id] at h5
  exact h5
theorem c_flowsTo {e : am_V} {I : Nat → Nat → Int32} {L : Nat → Nat → Int64} {Q : Int32 → (Nat → Nat → Int32) → Prop} {t : tw} {x g : Nat} (hM : MT t I) (hk : tok t) (hx : x < 8) (hg : g < 8) (hst : t 1 (8 * x + g) = 0) (hQ : ∀ J f w (sn : Nat → Bool), fr [90, 91, 92] [] I J → GF (t 1) (t 3) x g f w → w < 4608 → (∀ a, a < 64 → (J 91 a = (-1 : Int32)) = (sn a = false)) → (∀ a, a < 64 → (sn a = true ↔ RC (rS (t 1) x) (rF (t 3) f) a)) → Q (nI w) J) : C_X11_flowsTo_73 e (nI x) (nI g) I L Q := by
  have hw9 := tok_nw hk
  have h9 : ∀ k, k < 512 → t 3 k ≤ 9 := by
    have hk2 := hk
    obtain ⟨o0, oT, oZ, oY, oD, o9, oN, o28, oB, oX, oE, oF, oA, oH, oU, oV⟩ := hk2
    exact fun k hk => (oB k hk).2
  have hm : ∀ n w f J, 4608 - w = n → FL (t 1) (t 3) x g f w → fr [90, 91, 92] [] I J → (∀ k, k < 512 → J 90 k = nI (f k)) → C_X11_seeks_73 e (nI x) (nI g) J L (fun r K => T_X11_flowsTo_73_p32 e (nI x) (nI g) (nI w) r K L Q) := by
    intro n
    induction n using Nat.strongRecOn with
    | ind n ih =>
      intro w f J hn hF fJ h90
      have hw := FL_lt hF h9 hx hg hst
      have hMJ := fr_MT fJ hM rfl
      refine c_seeks hMJ hk h90 hF.1 hx hg (fun K sn k1 k2 k3 k4 => ?_) (fun z sn q r v K a k1 k2 k3 k4 => ?_)
      · refine b_X11_flowsTo_73_p32 ?_
        have q2 : ((-1 : Int32) = (-1 : Int32)) = True := eq_true rfl
        simp (disch := omega) only [pk_mul, nI_add, ksub, kdv, kd8, kd64, kd2, kd3, km8, km64, kt8, ke8, ke64, kcl, kin, kle, klt, keq, up_s, up_n, up_u, true_and, and_true, false_implies, true_implies, not_false_eq_true, not_true_eq_false, q2]
        exact hQ K f w sn (fr_trans fJ (fr_mono k1 rfl rfl)) ⟨hF, fun a ha hr => k4 a ha ((k3 a ha).mpr hr)⟩ hw k2 k3
      · refine b_X11_flowsTo_73_p32 ?_
        have q2 := km1 (n := a) (by omega)
        simp (disch := omega) only [pk_mul, nI_add, ksub, kdv, kd8, kd64, kd2, kd3, km8, km64, kt8, ke8, ke64, kcl, kin, kle, klt, keq, up_s, up_n, up_u, true_and, and_true, false_implies, true_implies, not_false_eq_true, not_true_eq_false, q2]
        have hMK := fr_MT k1.1 hMJ rfl
        have hp : ∀ n b f1 F, r b = n → b < 64 → sn b = true → FP (t 1) (t 3) x g sn r f f1 w 1 b → (∀ k, k < 512 → F k = nI (f1 k)) → T_X11_flowsTo_73_p38 e (nI x) (nI g) (nI w) (nI b) (va_up K 90 F) L Q := by
          intro n
          induction n using Nat.strongRecOn with
          | ind n ihp =>
            intro b f1 F hn2 hb6 hsb hP hFk
            obtain ⟨g1, g2, g3, g4⟩ := k1.2.2.2.2 b hb6 hsb
            refine b_X11_flowsTo_73_p38 ?_
            rcases g4 with ⟨g5, g6⟩ | ⟨g5, g6, g7⟩
            · have e91 : K 91 b = nI b := by rw [g3, g5]
              have q3 : (b = b) = True := eq_true rfl
              simp (disch := omega) only [pk_mul, nI_add, ksub, kdv, kd8, kd64, kd2, kd3, km8, km64, kt8, ke8, ke64, kcl, kin, kle, klt, keq, up_s, up_n, up_u, true_and, and_true, false_implies, true_implies, not_false_eq_true, not_true_eq_false, e91, q3]
              exact ih (4608 - (w + 1)) (by omega) (w + 1) f1 _ rfl (FP_e hP g6) (fr_up (fr_trans fJ (fr_mono k1.1 rfl rfl)) rfl) hFk
            · generalize hvp : v b = p at g2 g3 g5 g6 g7
              have q3 : (p = b) = False := eq_false (fun he => by rw [he] at g6; omega)
              obtain ⟨r1, r2, r3⟩ := g7
              have e83 := hMK.2.2.2.2.2.2.2.2.1 (8 * p + b % 8) (by omega)
              have eF1 := hFk (8 * p + b % 8) (by omega)
              have eF2 := hFk (8 * b + p % 8) (by omega)
              have d1 := hw9 (8 * p + b % 8) (by omega)
              have d2 := hw9 (8 * b + p % 8) (by omega)
              have d3 := hP.1 (8 * p + b % 8) (by omega)
              have d4 := hP.1 (8 * b + p % 8) (by omega)
              by_cases hon : p % 8 = b / 8 ∧ ¬ t 3 (8 * p + b % 8) ≤ f1 (8 * p + b % 8)
              · have hf1 : f1 (8 * p + b % 8) = f (8 * p + b % 8) := hP.2.2 _ (by omega) (by rw [show (8 * p + b % 8) / 8 = p from by omega]; exact g5) (by rw [show (8 * p + b % 8) % 64 = b from by omega]; exact hsb) (by rw [show (8 * p + b % 8) / 8 = p from by omega]; omega) (by rw [show (8 * p + b % 8) % 64 = b from by omega]; omega)
                obtain ⟨_, hP2⟩ := FP_on hP (show 8 * p + b % 8 < 512 from by omega) (show (8 * p + b % 8) / 8 = p from by omega) (by omega) hsb g5 (by omega) (by omega)
                have qa := eq_true hon.1
                have qb := eq_false hon.2
                simp (disch := omega) only [pk_mul, nI_add, ksub, kdv, kd8, kd64, kd2, kd3, km8, km64, kt8, ke8, ke64, kcl, kin, kle, klt, keq, up_s, up_n, up_u, true_and, and_true, false_implies, true_implies, not_false_eq_true, not_true_eq_false, g3, q3, e83, eF1, qa, qb]
                refine ihp (r p) (by omega) p _ _ rfl (by omega) g5 hP2 (fun j hj => ?_)
                by_cases he : j = 8 * p + b % 8
                · rw [he, up_s, up_s]
                · rw [up_n he, up_n he]; exact hFk j hj
              · have hbk : b % 8 = p / 8 ∧ 0 < f (8 * b + p % 8) := by
                  rcases r3 with ⟨r4, r5⟩ | r4
                  · have hf1 : f1 (8 * p + b % 8) = f (8 * p + b % 8) := hP.2.2 _ (by omega) (by rw [show (8 * p + b % 8) / 8 = p from by omega]; exact g5) (by rw [show (8 * p + b % 8) % 64 = b from by omega]; exact hsb) (by rw [show (8 * p + b % 8) / 8 = p from by omega]; omega) (by rw [show (8 * p + b % 8) % 64 = b from by omega]; omega)
                    exact absurd ⟨r4, by omega⟩ hon
                  · exact r4
                obtain ⟨hf2, hP2⟩ := FP_bk hP (show 8 * b + p % 8 < 512 from by omega) (show (8 * b + p % 8) / 8 = b from by omega) (show (8 * b + p % 8) % 64 = p from by omega) hsb g5 (by omega) hbk.2
                have d5 := hbk.2
                have hfin : T_X11_flowsTo_73_p38 e (nI x) (nI g) (nI w) (nI p) (va_up K 90 (va_up F (8 * b + p % 8) (nI (f1 (8 * b + p % 8) - 1)))) L Q := by
                  refine ihp (r p) (by omega) p _ _ rfl (by omega) g5 hP2 (fun j hj => ?_)
                  by_cases he : j = 8 * b + p % 8
                  · rw [he, up_s, up_s]
                  · rw [up_n he, up_n he]; exact hFk j hj
                by_cases qa : p % 8 = b / 8
                · have qb : t 3 (8 * p + b % 8) ≤ f1 (8 * p + b % 8) := Classical.byContradiction (fun h => hon ⟨qa, h⟩)
                  have qa2 := eq_true qa
                  have qb2 := eq_true qb
                  simp (disch := omega) only [pk_mul, nI_add, ksub, kdv, kd8, kd64, kd2, kd3, km8, km64, kt8, ke8, ke64, kcl, kin, kle, klt, keq, up_s, up_n, up_u, true_and, and_true, false_implies, true_implies, not_false_eq_true, not_true_eq_false, g3, q3, e83, eF1, eF2, qa2, qb2]
                  exact hfin
                · have qa2 := eq_false qa
                  simp (disch := omega) only [pk_mul, nI_add, ksub, kdv, kd8, kd64, kd2, kd3, km8, km64, kt8, ke8, ke64, kcl, kin, kle, klt, keq, up_s, up_n, up_u, true_and, and_true, false_implies, true_implies, not_false_eq_true, not_true_eq_false, g3, q3, e83, eF1, eF2, qa2]
                  exact hfin
        have h1 := hp _ a f (K 90) rfl k2 k3 (FP_0 hF k2 k4) (fun k hk => by rw [k1.1.1 90 (by decide) (by decide)]; exact h90 k hk)
        rw [up_id] at h1
        exact h1
  refine b_X11_flowsTo_73 ?_
  have h2 : T_X11_flowsTo_73_p2 e (nI x) (nI g) (nI 0) (va_up I 90 (I 90)) L Q := by
    refine lp_up (n := 512) (S := Nat → Int32) (T := fun k F => T_X11_flowsTo_73_p2 e (nI x) (nI g) (nI k) (va_up I 90 F) L Q) (fun k F => ∀ j, j < k → F j = nI 0) ?_ ?_ 0 (I 90) (Nat.zero_le _) (fun j h => absurd h (Nat.not_lt_zero _))
    · intro k F hk6 hi hnext
      refine b_X11_flowsTo_73_p2 ?_
      have hnk : (512 ≤ k) = False := eq_false (by omega)
      simp (disch := omega) only [pk_mul, nI_add, ksub, kdv, kd8, kd64, kd2, kd3, km8, km64, kt8, ke8, ke64, kcl, kin, kle, klt, keq, up_s, up_n, up_u, true_and, and_true, false_implies, true_implies, not_false_eq_true, not_true_eq_false, hnk]
      refine hnext _ (fun j hj => ?_)
      by_cases he : j = k
      · rw [he, up_s]
      · rw [up_n he]; exact hi j (by omega)
    · intro F hi
      refine b_X11_flowsTo_73_p2 ?_
      have hnn : (512 ≤ 512) = True := eq_true (Nat.le_refl _)
      simp (disch := omega) only [pk_mul, nI_add, ksub, kdv, kd8, kd64, kd2, kd3, km8, km64, kt8, ke8, ke64, kcl, kin, kle, klt, keq, up_s, up_n, up_u, true_and, and_true, false_implies, true_implies, not_false_eq_true, not_true_eq_false, hnn]
      exact hm _ 0 (fun _ => 0) _ rfl (FL_0 (fun _ _ => rfl)) (fr_up (fr_refl _ _ _) rfl) hi
  rw [up_id] at h2
  exact h2
