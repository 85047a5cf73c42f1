/-! the reference's ways: what its rows hold behind laysFar, waysTo -/
theorem fa_or (a b : Nat) : nI a ||| nI b = nI (a ||| b) := by
  apply Int32.toBitVec_inj.1
  show BitVec.ofNat 32 a ||| BitVec.ofNat 32 b = BitVec.ofNat 32 (a ||| b)
  apply BitVec.eq_of_getLsbD_eq
  intro i hi
  simp [hi]
/-- what a turn costs by uses nw; b = 1: it may be bought -/
def tcf (nw : Nat → Nat) (b : Nat) (k : Nat) : Nat := if 0 < nw k then 0 else if b = 1 then 1000000 else 100000000
theorem tcf_ok (nw : Nat → Nat) (b : Nat) : tcok (tcf nw b) := by
  intro k _
  unfold tcf
  split
  · exact Or.inl rfl
  · split
    · exact Or.inr (Or.inl rfl)
    · exact Or.inr (Or.inr rfl)
theorem sC_xy {st tc D : Nat → Nat} {x y z : Nat} (hy : y < 8) : sC st tc D (8 * x + y) z = tc (64 * x + 8 * y + z) + (100 * st (8 * y + z) + 1) + D (8 * y + z) := by
  unfold sC
  rw [show (8 * x + y) % 8 = y from by omega, show 8 * (8 * x + y) + z = 64 * x + 8 * y + z from by omega]
section MW
variable {e : am_V} {I : Nat → Nat → Int32} {L : Nat → Nat → Int64} {st nw : Nat → Nat} {n b g : Nat}
/-- what the searches of the reference read -/
def mwQ (I : Nat → Nat → Int32) (st nw : Nat → Nat) (n : Nat) : Prop := I 80 0 = nI n ∧ (∀ k, k < 64 → I 81 k = nI (st k)) ∧ (∀ k, k < 512 → I 87 k = nI (nw k)) ∧ n ≤ 8 ∧ (∀ k, k < 64 → st k ≤ 9) ∧ (∀ k, k < 512 → nw k ≤ 1000) ∧ (∀ x, x < 8 → ∀ y, y < 8 → 0 < st (8 * x + y) → x < n ∧ y < n)
def mwR (I : Nat → Nat → Int32) (st nw : Nat → Nat) (n b : Nat) : Prop := mwQ I st nw n ∧ I 73 28 = nI b ∧ (b = 0 ∨ b = 1)
theorem mwQ_c {I J : Nat → Nat → Int32} (hR : mwQ I st nw n) (h1 : J 80 = I 80) (h2 : J 81 = I 81) (h3 : J 87 = I 87) : mwQ J st nw n := by
  unfold mwQ at hR ⊢
  rw [h1, h2, h3]
  exact hR
theorem c_betters {Q : Int32 → (Nat → Nat → Int32) → Prop} {x y : Nat} {F : Nat → Int32} {D : Nat → Nat} (hR : mwR I st nw n b) (hx : x < 8) (hy : y < 8) (hs : 0 < st (8 * x + y)) (hg : y ≠ g) (hF : ∀ k, k < 64 → F k = nI (D k)) (hD : ∀ k, D k ≤ 100000000) (hp : pD st (tcf nw b) g D)
    (hQ : ∀ r F' D', (∀ k, k < 64 → F' k = nI (D' k)) → (∀ k, D' k ≤ 100000000) → pD st (tcf nw b) g D' → ((r = 0 ∧ D' = D ∧ ∀ z, z < 8 → 0 < st (8 * y + z) → sC st (tcf nw b) D (8 * x + y) z < 100000000 → D (8 * x + y) ≤ sC st (tcf nw b) D (8 * x + y) z) ∨ (r = 1 ∧ sm D' 64 < sm D 64)) → Q (nI r) (va_up I 88 F')) : C_X11_betters_73 e (nI x) (nI y) (va_up I 88 F) L Q := by
  obtain ⟨⟨h80, h81, h87, hn, h9, hw, hN⟩, h28, hb⟩ := hR
  refine b_X11_betters_73 ?_
  refine lp_ux (n := n) (N := 8) (S := Nat × (Nat → Int32) × (Nat → Nat)) (T := fun z s => T_X11_betters_73_p5 e (nI x) (nI y) (nI s.1) (nI z) (va_up I 88 s.2.1) L Q) (fun z s => (∀ k, k < 64 → s.2.1 k = nI (s.2.2 k)) ∧ (∀ k, s.2.2 k ≤ 100000000) ∧ pD st (tcf nw b) g s.2.2 ∧ ((s.1 = 0 ∧ s.2.2 = D ∧ ∀ z', z' < z → 0 < st (8 * y + z') → sC st (tcf nw b) D (8 * x + y) z' < 100000000 → D (8 * x + y) ≤ sC st (tcf nw b) D (8 * x + y) z') ∨ (s.1 = 1 ∧ sm s.2.2 64 < sm D 64))) hn ?_ ?_ ?_ (0, F, D) ⟨hF, hD, hp, Or.inl ⟨rfl, rfl, fun z' h => absurd h (Nat.not_lt_zero _)⟩⟩
  · rintro z ⟨r, F', D'⟩ hz1 hz2 ⟨i1, i2, i3, i4⟩
    dsimp only at i1 i2 i3 i4
    refine ⟨i1, i2, i3, ?_⟩
    rcases i4 with ⟨j1, j2, j3⟩ | j
    · refine Or.inl ⟨j1, j2, fun z' hz' h1 h2 => ?_⟩
      by_cases he : z' = z
      · have := hN y hy z' (by omega) h1
        omega
      · exact j3 z' (by omega) h1 h2
    · exact Or.inr j
  · rintro z ⟨r, F', D'⟩ hz ⟨i1, i2, i3, i4⟩ hnext
    dsimp only at i1 i2 i3 i4
    have hnz : (n ≤ z) = False := eq_false (by omega)
    have b1 := h9 (8 * y + z) (by omega)
    have b2 := hw (64 * x + 8 * y + z) (by omega)
    have b3 := i2 (8 * y + z)
    have b4 := i2 (8 * x + y)
    have es : sC st (tcf nw b) D' (8 * x + y) z = tcf nw b (64 * x + 8 * y + z) + (100 * st (8 * y + z) + 1) + D' (8 * y + z) := sC_xy hy
    have hstep : ∀ w, tcf nw b (64 * x + 8 * y + z) = w → 0 < st (8 * y + z) → (100000000 ≤ w + (100 * st (8 * y + z) + 1) + D' (8 * y + z) → T_X11_betters_73_p5 e (nI x) (nI y) (nI r) (nI (z + 1)) (va_up I 88 F') L Q) ∧ (¬ 100000000 ≤ w + (100 * st (8 * y + z) + 1) + D' (8 * y + z) → (w + (100 * st (8 * y + z) + 1) + D' (8 * y + z) < D' (8 * x + y) → T_X11_betters_73_p5 e (nI x) (nI y) (nI 1) (nI (z + 1)) (va_up I 88 (va_up F' (8 * x + y) (nI (w + (100 * st (8 * y + z) + 1) + D' (8 * y + z))))) L Q) ∧ (¬ w + (100 * st (8 * y + z) + 1) + D' (8 * y + z) < D' (8 * x + y) → T_X11_betters_73_p5 e (nI x) (nI y) (nI r) (nI (z + 1)) (va_up I 88 F') L Q)) := by
      intro w ew hsz
      rw [ew] at es
      refine ⟨fun h1 => hnext (r, F', D') ⟨i1, i2, i3, ?_⟩, fun h1 => ⟨fun h2 => hnext (1, va_up F' (8 * x + y) (nI (w + (100 * st (8 * y + z) + 1) + D' (8 * y + z))), va_up D' (8 * x + y) (sC st (tcf nw b) D' (8 * x + y) z)) ⟨?_, ?_, ?_, Or.inr ⟨rfl, ?_⟩⟩, fun h2 => hnext (r, F', D') ⟨i1, i2, i3, ?_⟩⟩⟩
      · rcases i4 with ⟨j1, j2, j3⟩ | j
        · refine Or.inl ⟨j1, j2, fun z' hz' q1 q2 => ?_⟩
          by_cases he : z' = z
          · change D' = D at j2
            rw [he, ← j2, es] at q2
            omega
          · exact j3 z' (by omega) q1 q2
        · exact Or.inr j
      · intro k hk
        show va_up F' _ _ k = nI (va_up D' _ _ k)
        by_cases hka : k = 8 * x + y
        · rw [hka, up_s, up_s, es]
        · rw [up_n hka, up_n hka]; exact i1 k hk
      · intro k
        show va_up D' _ _ k ≤ _
        by_cases hka : k = 8 * x + y
        · rw [hka, up_s, es]; omega
        · rw [up_n hka]; exact i2 k
      · exact pD_up i3 (by omega) hs (by omega) (by omega) (by rw [show (8 * x + y) % 8 = y from by omega]; exact hsz) (by rw [es]; exact h2)
      · have hsm : sm (va_up D' (8 * x + y) (sC st (tcf nw b) D' (8 * x + y) z)) 64 < sm D' 64 := by
          refine sm_lt (k0 := 8 * x + y) (fun k _ => ?_) (by omega) (by rw [up_s, es]; exact h2)
          by_cases hk : k = 8 * x + y
          · rw [hk, up_s, es]; omega
          · rw [up_n hk]; exact Nat.le_refl _
        show sm (va_up D' (8 * x + y) (sC st (tcf nw b) D' (8 * x + y) z)) 64 < _
        rcases i4 with ⟨j1, j2, j3⟩ | j
        · change D' = D at j2
          rw [← j2]; exact hsm
        · have := j.2
          change sm D' 64 < sm D 64 at this
          omega
      · rcases i4 with ⟨j1, j2, j3⟩ | j
        · refine Or.inl ⟨j1, j2, fun z' hz' q1 q2 => ?_⟩
          by_cases he : z' = z
          · change D' = D at j2
            rw [he, ← j2, es]
            omega
          · exact j3 z' (by omega) q1 q2
        · exact Or.inr j
    refine b_X11_betters_73_p5 ?_
    simp (disch := omega) only [pk_mul, nI_add, ksub, kdv, kd8, kd64, kd2, kd3, km8, km64, kt8, ke8, ke64, kcl, kin, kle, klt, keq, up_s, up_n, up_u, true_and, and_true, false_implies, true_implies, not_false_eq_true, not_true_eq_false, h80, h81, h87, h28, hnz, i1]
    refine ⟨fun hs0 => hnext (r, F', D') ⟨i1, i2, i3, ?_⟩, fun hs0 => ⟨fun hw0 => ⟨fun hb0 => ?_, fun hb0 => ?_⟩, fun hw0 => ?_⟩⟩
    · rcases i4 with ⟨j1, j2, j3⟩ | j
      · refine Or.inl ⟨j1, j2, fun z' hz' q1 q2 => ?_⟩
        by_cases he : z' = z
        · rw [he] at q1
          omega
        · exact j3 z' (by omega) q1 q2
      · exact Or.inr j
    · exact hstep _ (by unfold tcf; rw [if_neg (by omega), if_neg (by omega)]) (by omega)
    · exact hstep _ (by unfold tcf; rw [if_neg (by omega), if_pos (by omega)]) (by omega)
    · have h0 := hstep 0 (by unfold tcf; rw [if_pos (by omega)]) (by omega)
      exact h0
  · rintro ⟨r, F', D'⟩ ⟨i1, i2, i3, i4⟩
    dsimp only at i1 i2 i3 i4
    refine b_X11_betters_73_p5 ?_
    have hr : r = 0 ∨ r = 1 := by
      rcases i4 with j | j
      · exact Or.inl j.1
      · exact Or.inr j.1
    have hnn : (n ≤ n) = True := eq_true (Nat.le_refl _)
    simp (disch := omega) only [pk_mul, nI_add, ksub, kdv, kd8, kd64, kd2, kd3, km8, km64, kt8, ke8, ke64, kcl, kin, kle, klt, keq, up_s, up_n, up_u, true_and, and_true, false_implies, true_implies, not_false_eq_true, not_true_eq_false, h80, hnn]
    refine ⟨?_, hQ r F' D' i1 i2 i3 i4⟩
    rcases hr with h | h
    · exact Or.inl (by rw [h]; rfl)
    · exact Or.inr (by rw [h]; rfl)
/-- the invariant of a sweep: nothing bettered, and all is least where P; or bettered -/
def lfI (st tc : Nat → Nat) (g : Nat) (D : Nat → Nat) (s : Nat × (Nat → Int32) × (Nat → Nat)) (P : Nat → Nat → Prop) : Prop := (∀ k, k < 64 → s.2.1 k = nI (s.2.2 k)) ∧ (∀ k, s.2.2 k ≤ 100000000) ∧ pD st tc g s.2.2 ∧ ((s.1 = 0 ∧ s.2.2 = D ∧ ∀ x y, x < 8 → y < 8 → P x y → 0 < st (8 * x + y) → y ≠ g → ∀ z, z < 8 → 0 < st (8 * y + z) → sC st tc D (8 * x + y) z < 100000000 → D (8 * x + y) ≤ sC st tc D (8 * x + y) z) ∨ (s.1 = 1 ∧ sm s.2.2 64 < sm D 64))
theorem lfI_m {st tc : Nat → Nat} {g : Nat} {D : Nat → Nat} {s : Nat × (Nat → Int32) × (Nat → Nat)} {P P' : Nat → Nat → Prop} (h : lfI st tc g D s P) (hm : ∀ x y, x < 8 → y < 8 → P' x y → 0 < st (8 * x + y) → y ≠ g → P x y) : lfI st tc g D s P' := by
  obtain ⟨h1, h2, h3, h4⟩ := h
  refine ⟨h1, h2, h3, ?_⟩
  rcases h4 with ⟨j1, j2, j3⟩ | j
  · exact Or.inl ⟨j1, j2, fun x y hx hy hp hs hg => j3 x y hx hy (hm x y hx hy hp hs hg) hs hg⟩
  · exact Or.inr j
theorem c_laysFar {Q : (Nat → Nat → Int32) → Prop} (hR : mwR I st nw n b) (hg : g < 8) (hQ : ∀ F', (∀ a, a < 64 → 0 < st a → F' a = nI (wD st (tcf nw b) g a)) → Q (va_up I 88 F')) : C_X11_laysFar_73 e (nI g) I L Q := by
  have hR2 := hR
  obtain ⟨⟨h80, h81, h87, hn, h9, hw, hN⟩, h28, hb⟩ := hR
  have h37 : ∀ m F D, sm D 64 = m → (∀ k, k < 64 → F k = nI (D k)) → (∀ k, D k ≤ 100000000) → pD st (tcf nw b) g D → T_X11_laysFar_73_p37 e (nI g) (nI 1) (va_up I 88 F) L Q := by
    intro m
    induction m using Nat.strongRecOn with
    | ind m ih =>
      intro F D hm hF hD hp
      refine b_X11_laysFar_73_p37 ⟨fun h => absurd h (by decide), fun _ => ?_⟩
      refine lp_ux (n := n) (N := 8) (S := Nat × (Nat → Int32) × (Nat → Nat)) (T := fun x s => T_X11_laysFar_73_p45 e (nI g) (nI s.1) (nI x) (va_up I 88 s.2.1) L Q) (fun x s => lfI st (tcf nw b) g D s (fun x' _ => x' < x)) hn ?_ ?_ ?_ (0, F, D) ⟨hF, hD, hp, Or.inl ⟨rfl, rfl, fun x y _ _ h => absurd h (Nat.not_lt_zero _)⟩⟩
      · intro x s h1 h2 hi
        refine lfI_m hi (fun x' y' q1 q2 q3 q4 _ => ?_)
        have := hN x' q1 y' q2 q4
        omega
      · rintro x ⟨r, F1, D1⟩ hx hi hnext
        refine b_X11_laysFar_73_p45 ?_
        have hnx : (n ≤ x) = False := eq_false (by omega)
        simp (disch := omega) only [pk_mul, nI_add, ksub, kdv, kd8, kd64, kd2, kd3, km8, km64, kt8, ke8, ke64, kcl, kin, kle, klt, keq, up_s, up_n, up_u, true_and, and_true, false_implies, true_implies, not_false_eq_true, not_true_eq_false, h80, hnx]
        refine lp_ux (n := n) (N := 8) (S := Nat × (Nat → Int32) × (Nat → Nat)) (T := fun y s => T_X11_laysFar_73_p56 e (nI g) (nI s.1) (nI x) (nI y) (va_up I 88 s.2.1) L Q) (fun y s => lfI st (tcf nw b) g D s (fun x' y' => x' < x ∨ (x' = x ∧ y' < y))) hn ?_ ?_ ?_ (r, F1, D1) (lfI_m hi (fun x' y' q1 q2 q3 q4 _ => by omega))
        · intro y s h1 h2 hi
          refine lfI_m hi (fun x' y' q1 q2 q3 q4 _ => ?_)
          have := hN x' q1 y' q2 q4
          omega
        · rintro y ⟨r, F1, D1⟩ hy hi hnext2
          refine b_X11_laysFar_73_p56 ?_
          have hny : (n ≤ y) = False := eq_false (by omega)
          have b1 := h9 (8 * x + y) (by omega)
          simp (disch := omega) only [pk_mul, nI_add, ksub, kdv, kd8, kd64, kd2, kd3, km8, km64, kt8, ke8, ke64, kcl, kin, kle, klt, keq, up_s, up_n, up_u, true_and, and_true, false_implies, true_implies, not_false_eq_true, not_true_eq_false, h80, h81, hny]
          refine ⟨fun hs0 => hnext2 (r, F1, D1) (lfI_m hi (fun x' y' q1 q2 q3 q4 _ => ?_)), fun hs0 => ⟨fun hyg => hnext2 (r, F1, D1) (lfI_m hi (fun x' y' q1 q2 q3 q4 q5 => by omega)), fun hyg => ?_⟩⟩
          · rcases q3 with h | ⟨h, h'⟩
            · exact Or.inl h
            · by_cases he : y' = y
              · rw [h, he] at q4; omega
              · exact Or.inr ⟨h, by omega⟩
          · obtain ⟨i1, i2, i3, i4⟩ := hi
            refine c_betters hR2 (by omega) (by omega) (by omega) hyg i1 i2 i3 (fun r' F2 D2 k1 k2 k3 k4 => ?_)
            rw [fa_or]
            refine hnext2 (r ||| r', F2, D2) ⟨k1, k2, k3, ?_⟩
            rcases i4 with ⟨j1, j2, j3⟩ | ⟨j1, j2⟩
            · change r = 0 at j1
              change D1 = D at j2
              subst j1
              rcases k4 with ⟨l1, l2, l3⟩ | ⟨l1, l2⟩
              · subst l1
                refine Or.inl ⟨rfl, l2.trans j2, fun x' y' q1 q2 q3 q4 q5 z hz => ?_⟩
                by_cases hxy : x' = x ∧ y' = y
                · rw [hxy.1, hxy.2, ← j2]
                  intro p1 p2
                  exact l3 z hz p1 p2
                · exact j3 x' y' q1 q2 (by omega) q4 q5 z hz
              · subst l1
                exact Or.inr ⟨rfl, by rw [← j2]; exact l2⟩
            · change r = 1 at j1
              change sm D1 64 < sm D 64 at j2
              subst j1
              rcases k4 with ⟨l1, l2, l3⟩ | ⟨l1, l2⟩
              · subst l1
                exact Or.inr ⟨rfl, by rw [l2]; exact j2⟩
              · subst l1
                exact Or.inr ⟨rfl, Nat.lt_trans l2 j2⟩
        · rintro ⟨r, F1, D1⟩ hi2
          refine b_X11_laysFar_73_p56 ?_
          have hnn : (n ≤ n) = True := eq_true (Nat.le_refl _)
          simp (disch := omega) only [pk_mul, nI_add, ksub, kdv, kd8, kd64, kd2, kd3, km8, km64, kt8, ke8, ke64, kcl, kin, kle, klt, keq, up_s, up_n, up_u, true_and, and_true, false_implies, true_implies, not_false_eq_true, not_true_eq_false, h80, hnn]
          exact hnext (r, F1, D1) (lfI_m hi2 (fun x' y' q1 q2 q3 q4 _ => by have := hN x' q1 y' q2 q4; omega))
      · rintro ⟨r, F1, D1⟩ hi
        refine b_X11_laysFar_73_p45 ?_
        have hnn : (n ≤ n) = True := eq_true (Nat.le_refl _)
        simp (disch := omega) only [pk_mul, nI_add, ksub, kdv, kd8, kd64, kd2, kd3, km8, km64, kt8, ke8, ke64, kcl, kin, kle, klt, keq, up_s, up_n, up_u, true_and, and_true, false_implies, true_implies, not_false_eq_true, not_true_eq_false, h80, hnn]
        obtain ⟨i1, i2, i3, i4⟩ := hi
        dsimp only at i1 i2 i3 i4
        rcases i4 with ⟨j1, j2, j3⟩ | ⟨j1, j2⟩
        · change r = 0 at j1
          change D1 = D at j2
          subst j1
          subst j2
          refine b_X11_laysFar_73_p37 ⟨fun _ => hQ F1 (fun a ha hs => ?_), fun h => absurd rfl h⟩
          have hD1 : isD st (tcf nw b) g D1 := by
            refine pD_is hp (fun a z ha hs hgg hz hb hf => ?_)
            have h5 := j3 (a / 8) (a % 8) (by omega) (by omega) (by have := hN (a / 8) (by omega) (a % 8) (by omega) (by rw [show 8 * (a / 8) + a % 8 = a from by omega]; exact hs); omega) (by rw [show 8 * (a / 8) + a % 8 = a from by omega]; exact hs) hgg z hz hb
            rw [show 8 * (a / 8) + a % 8 = a from by omega] at h5
            exact h5 hf
          rw [isD_un (wD_is st (tcf nw b) g) hD1 ha hs]
          exact i1 a ha
        · change r = 1 at j1
          subst j1
          exact ih (sm D1 64) (by rw [← hm]; exact j2) F1 D1 rfl i1 i2 i3
  refine b_X11_laysFar_73 ?_
  have h0 : T_X11_laysFar_73_p2 e (nI g) (nI 0) (va_up I 88 (I 88)) L Q := by
    refine lp_up (n := 64) (S := Nat → Int32) (T := fun k F => T_X11_laysFar_73_p2 e (nI g) (nI k) (va_up I 88 F) L Q) (fun k F => ∀ j, j < k → F j = nI (if j % 8 = g then 0 else 100000000)) ?_ ?_ 0 (I 88) (Nat.zero_le _) (fun j h => absurd h (Nat.not_lt_zero _))
    · intro k F hk hi hnext
      refine b_X11_laysFar_73_p2 ?_
      have hnk : (64 ≤ k) = False := eq_false (by omega)
      simp (disch := omega) only [pk_mul, nI_add, ksub, kdv, kd8, kd64, kd2, kd3, km8, km64, kt8, ke8, ke64, kcl, kin, kle, klt, keq, up_s, up_n, up_u, true_and, and_true, false_implies, true_implies, not_false_eq_true, not_true_eq_false, hnk]
      refine ⟨fun h => hnext _ (fun j hj => ?_), fun h => hnext _ (fun j hj => ?_)⟩
      · by_cases he : j = k
        · rw [he, up_s, if_pos h]
        · rw [up_n he]; exact hi j (by omega)
      · by_cases he : j = k
        · rw [he, up_s, if_neg h]
        · rw [up_n he]; exact hi j (by omega)
    · intro F hi
      refine b_X11_laysFar_73_p2 ?_
      have hnn : (64 ≤ 64) = True := eq_true (Nat.le_refl _)
      simp (disch := omega) only [pk_mul, nI_add, ksub, kdv, kd8, kd64, kd2, kd3, km8, km64, kt8, ke8, ke64, kcl, kin, kle, klt, keq, up_s, up_n, up_u, true_and, and_true, false_implies, true_implies, not_false_eq_true, not_true_eq_false, hnn]
      exact h37 _ F (fun a => if a % 8 = g then 0 else 100000000) rfl hi (fun k => by show (if k % 8 = g then 0 else 100000000) ≤ 100000000; split <;> omega) (pD_0 _ _ _)
  rw [up_id] at h0
  exact h0
theorem c_goesOn {Q : (Nat → Nat → Int32) → Prop} {x y i : Nat} {D : Nat → Nat} (hR : mwR I st nw n b) (hF : ∀ a, a < 64 → 0 < st a → I 88 a = nI (D a)) (hD : isD st (tcf nw b) g D) (hx : x < 8) (hy : y < 8) (hs : 0 < st (8 * x + y)) (hf : D (8 * x + y) < 100000000) (hg : y ≠ g) (h27 : I 73 27 = nI i) (hi : i < 40)
    (hQ : Q (va_up (va_up I 89 (va_up (I 89) i (nI (nxt st (tcf nw b) D (8 * x + y))))) 73 (va_up (I 73) 27 (nI (i + 1))))) : C_X11_goesOn_73 e (nI x) (nI y) I L Q := by
  obtain ⟨⟨h80, h81, h87, hn, h9, hw, hN⟩, h28, hb⟩ := hR
  obtain ⟨n1, n2, n3, n4, n5⟩ := nxt_sp hD (show 8 * x + y < 64 from by omega) hs hf (by omega)
  have hFa := hF (8 * x + y) (by omega) hs
  refine b_X11_goesOn_73 ?_
  refine lp_up (n := nxt st (tcf nw b) D (8 * x + y)) (S := Unit) (T := fun z _ => T_X11_goesOn_73_p2 e (nI x) (nI y) (nI z) I L Q) (fun _ _ => True) ?_ ?_ 0 () (Nat.zero_le _) trivial
  · intro z _ hz _ hnext
    have hnx := hnext () trivial
    refine b_X11_goesOn_73_p2 ?_
    have b1 := h9 (8 * y + z) (by omega)
    have b2 := hw (64 * x + 8 * y + z) (by omega)
    by_cases hs0 : st (8 * y + z) ≤ 0
    · have hs1 : (st (8 * y + z) ≤ 0) = True := eq_true hs0
      simp (disch := omega) only [pk_mul, nI_add, ksub, kdv, kd8, kd64, kd2, kd3, km8, km64, kt8, ke8, ke64, kcl, kin, kle, klt, keq, up_s, up_n, up_u, true_and, and_true, false_implies, true_implies, not_false_eq_true, not_true_eq_false, h81, hs1]
      exact hnx
    · have hs1 : (st (8 * y + z) ≤ 0) = False := eq_false hs0
      have hFz := hF (8 * y + z) (by omega) (by omega)
      have d1 := (hD (8 * y + z) (by omega) (by omega)).1
      have d2 := (hD (8 * x + y) (by omega) hs).1
      have hno := n5 z hz
      unfold nxp at hno
      rw [sC_xy hy, show (8 * x + y) % 8 = y from by omega, decide_eq_true (show 0 < st (8 * y + z) from by omega), Bool.true_and] at hno
      have hno2 : D (8 * y + z) < 100000000 → ∀ w, tcf nw b (64 * x + 8 * y + z) = w → w + (100 * st (8 * y + z) + 1) + D (8 * y + z) = D (8 * x + y) → False := by
        intro q1 w q2 q3
        rw [q2, decide_eq_true q1, decide_eq_true q3] at hno
        cases hno
      simp (disch := omega) only [pk_mul, nI_add, ksub, kdv, kd8, kd64, kd2, kd3, km8, km64, kt8, ke8, ke64, kcl, kin, kle, klt, keq, up_s, up_n, up_u, true_and, and_true, false_implies, true_implies, not_false_eq_true, not_true_eq_false, h81, h87, h28, hs1, hFz, hFa]
      refine ⟨fun _ => hnx, fun hq => ⟨fun hw0 => ⟨fun hb0 => ⟨fun he => ?_, fun _ => hnx⟩, fun hb0 => ⟨fun he => ?_, fun _ => hnx⟩⟩, fun hw0 => ⟨fun he => ?_, fun _ => hnx⟩⟩⟩
      · exact (hno2 (by omega) _ (by unfold tcf; rw [if_neg (by omega), if_neg (by omega)]) he).elim
      · exact (hno2 (by omega) _ (by unfold tcf; rw [if_neg (by omega), if_pos (by omega)]) he).elim
      · exact (hno2 (by omega) 0 (by unfold tcf; rw [if_pos (by omega)]) he).elim
  · intro _ _
    refine b_X11_goesOn_73_p2 ?_
    generalize nxt st (tcf nw b) D (8 * x + y) = z at n1 n2 n3 n4 n5 hQ
    rw [show (8 * x + y) % 8 = y from by omega] at n2 n3
    rw [sC_xy hy] at n4
    have b1 := h9 (8 * y + z) (by omega)
    have b2 := hw (64 * x + 8 * y + z) (by omega)
    have hs1 : (st (8 * y + z) ≤ 0) = False := eq_false (by omega)
    have hFz := hF (8 * y + z) (by omega) n2
    have hfz : (100000000 ≤ D (8 * y + z)) = False := eq_false (by omega)
    simp (disch := omega) only [pk_mul, nI_add, ksub, kdv, kd8, kd64, kd2, kd3, km8, km64, kt8, ke8, ke64, kcl, kin, kle, klt, keq, up_s, up_n, up_u, true_and, and_true, false_implies, true_implies, not_false_eq_true, not_true_eq_false, h81, h87, h28, hs1, hFz, hFa, hfz, h27]
    unfold tcf at n4
    refine ⟨fun hw0 => ⟨fun hb0 => ?_, fun hb0 => ?_⟩, fun hw0 => ?_⟩
    · rw [if_neg (by omega), if_neg (by omega)] at n4
      exact ⟨fun _ => hQ, fun h => absurd n4 h⟩
    · rw [if_neg (by omega), if_pos (by omega)] at n4
      exact ⟨fun _ => hQ, fun h => absurd n4 h⟩
    · rw [if_pos (by omega)] at n4
      exact ⟨fun _ => hQ, fun h => absurd n4 h⟩
end MW
/-- the way's crossings make its arcs -/
theorem wR_arc {st tc : Nat → Nat} {g x i : Nat} (hk : stok st tc) (hx : x < 8) (hw : (wB st (wD st tc g) x 8).1 < 100000000) (hi : i ≤ wS st tc (wD st tc g) g (8 * x + (wB st (wD st tc g) x 8).2)) : 8 * wR st tc g x i + wR st tc g x (i + 1) = pA st tc (wD st tc g) (8 * x + (wB st (wD st tc g) x 8).2) i ∧ wR st tc g x i < 8 ∧ wR st tc g x (i + 1) < 8 := by
  obtain ⟨w1, w2, w3⟩ := wB_sp st (wD st tc g) x 8
  obtain ⟨v1, v2, v3⟩ := w3 hw
  have hD := wD_is st tc g
  have hf : wD st tc g (8 * x + (wB st (wD st tc g) x 8).2) < 100000000 := by omega
  obtain ⟨s1, s2, s3⟩ := wS_sp hD hk (show 8 * x + (wB st (wD st tc g) x 8).2 < 64 from by omega) v2 hf
  cases i with
  | zero =>
    show 8 * x + (8 * x + (wB st (wD st tc g) x 8).2) % 8 = 8 * x + (wB st (wD st tc g) x 8).2 ∧ x < 8 ∧ (8 * x + (wB st (wD st tc g) x 8).2) % 8 < 8
    omega
  | succ i =>
    obtain ⟨p1, p2, p3, p4, p5⟩ := pA_sp hD (show 8 * x + (wB st (wD st tc g) x 8).2 < 64 from by omega) v2 hf i (fun j hj => s3 j (by omega))
    obtain ⟨n1, n2, n3, n4, n5⟩ := nxt_sp hD p1 p2 p3 (s3 i (by omega))
    show 8 * (pA st tc (wD st tc g) (8 * x + (wB st (wD st tc g) x 8).2) i % 8) + (8 * (pA st tc (wD st tc g) (8 * x + (wB st (wD st tc g) x 8).2) i % 8) + nxt st tc (wD st tc g) (pA st tc (wD st tc g) (8 * x + (wB st (wD st tc g) x 8).2) i)) % 8 = 8 * (pA st tc (wD st tc g) (8 * x + (wB st (wD st tc g) x 8).2) i % 8) + nxt st tc (wD st tc g) (pA st tc (wD st tc g) (8 * x + (wB st (wD st tc g) x 8).2) i) ∧ pA st tc (wD st tc g) (8 * x + (wB st (wD st tc g) x 8).2) i % 8 < 8 ∧ (8 * (pA st tc (wD st tc g) (8 * x + (wB st (wD st tc g) x 8).2) i % 8) + nxt st tc (wD st tc g) (pA st tc (wD st tc g) (8 * x + (wB st (wD st tc g) x 8).2) i)) % 8 < 8
    omega
section MW2
variable {e : am_V} {I : Nat → Nat → Int32} {L : Nat → Nat → Int64} {st nw : Nat → Nat} {n b g : Nat}
theorem c_waysTo {Q : Int32 → (Nat → Nat → Int32) → Prop} {x : Nat} (hR : mwQ I st nw n) (h28 : cn (fun c => decide (0 < st c)) 64 ≤ 28) (hx : x < n) (hg : g < n) (hb : b = 0 ∨ b = 1)
    (hQ : ∀ J, fr [88, 89] [27, 28] I J → (wC st (tcf nw b) g x < 100000000 → J 73 27 = nI (wL st (tcf nw b) g x) ∧ ∀ i, i < wL st (tcf nw b) g x → J 89 i = nI (wR st (tcf nw b) g x i)) → Q (nI (wC st (tcf nw b) g x)) J) : C_X11_waysTo_73 e (nI x) (nI g) (nI b) I L Q := by
  have hR2 := hR
  obtain ⟨h80, h81, h87, hn, h9, hw, hN⟩ := hR
  have hk : stok st (tcf nw b) := ⟨h9, h28, tcf_ok nw b⟩
  refine b_X11_waysTo_73 ⟨by rcases hb with h | h <;> rw [h]; exact Or.inl rfl; exact Or.inr rfl, ?_⟩
  generalize hJ0 : va_up (va_up (va_up I 73 (va_up (I 73) 28 (nI b))) 89 (va_up (I 89) 0 (nI x))) 73 (va_up (va_up (I 73) 28 (nI b)) 27 (nI 1)) = J0
  have f0 : fr [88, 89] [27, 28] I J0 := by
    have f1 : fr [88, 89] [27, 28] I (va_up (va_up I 73 (va_up (I 73) 28 (nI b))) 89 (va_up (I 89) 0 (nI x))) := fr_up (fr_73 (fr_refl _ _ _) rfl) rfl
    have f2 := fr_73 (k := 27) (v := nI 1) f1 rfl
    rw [← hJ0]
    exact f2
  have j89 : J0 89 0 = nI x := by rw [← hJ0]; rfl
  have j27 : J0 73 27 = nI 1 := by rw [← hJ0]; rfl
  have j28 : J0 73 28 = nI b := by rw [← hJ0]; rfl
  refine ⟨fun hxg => ?_, fun hxg => ?_⟩
  · have hxg2 : x = g := (nI_eq (by omega) (by omega)).mp hxg
    have e1 : wC st (tcf nw b) g x = 0 := if_pos hxg2
    have e2 : wL st (tcf nw b) g x = 1 := if_pos hxg2
    have h5 := hQ J0 f0
    rw [e1, e2] at h5
    refine h5 (fun _ => ⟨j27, fun i hi => ?_⟩)
    have : i = 0 := by omega
    rw [this]
    exact j89
  · have hxg2 : x ≠ g := fun h => hxg (by rw [h])
    have e1 : wC st (tcf nw b) g x = (wB st (wD st (tcf nw b) g) x 8).1 := if_neg hxg2
    have e2 : wL st (tcf nw b) g x = wS st (tcf nw b) (wD st (tcf nw b) g) g (8 * x + (wB st (wD st (tcf nw b) g) x 8).2) + 2 := if_neg hxg2
    rw [e1, e2] at hQ
    refine c_laysFar (I := J0) ⟨mwQ_c hR2 (f0.1 80 (by decide) (by decide)) (f0.1 81 (by decide) (by decide)) (f0.1 87 (by decide) (by decide)), j28, hb⟩ (by omega) (fun F' hF' => ?_)
    have hD := wD_is st (tcf nw b) g
    generalize hDD : wD st (tcf nw b) g = D at hF' hQ e1 e2 hD
    obtain ⟨w1, w2, w3⟩ := wB_sp st D x 8
    refine lp_ux (n := n) (N := 8) (S := Nat × (Nat → Nat → Int32)) (T := fun z s => T_X11_waysTo_73_p37 e (nI x) (nI g) (nI s.1) (nI z) s.2 L Q) (fun z s => fr [88, 89] [27, 28] I s.2 ∧ (∀ a, a < 64 → 0 < st a → s.2 88 a = nI (D a)) ∧ s.2 89 0 = nI x ∧ s.1 = (wB st D x z).1 ∧ (s.1 < 100000000 → s.2 89 1 = nI (wB st D x z).2) ∧ s.2 73 28 = nI b) hn ?_ ?_ ?_ (100000000, va_up J0 88 F') ⟨fr_up f0 rfl, fun a ha hs => hF' a ha hs, j89, rfl, fun h => absurd h (Nat.lt_irrefl _), j28⟩
    · rintro z ⟨v, J⟩ h1 h2 ⟨i1, i2, i3, i4, i5, i6⟩
      dsimp only at i1 i2 i3 i4 i5 i6
      have e3 : wB st D x (z + 1) = wB st D x z := by
        show (if 0 < st (8 * x + z) ∧ 100 * st (8 * x + z) + 1 + D (8 * x + z) < (wB st D x z).1 then (100 * st (8 * x + z) + 1 + D (8 * x + z), z) else wB st D x z) = _
        rw [if_neg]
        rintro ⟨q1, q2⟩
        have := hN x (by omega) z (by omega) q1
        omega
      rw [e3]
      exact ⟨i1, i2, i3, i4, i5, i6⟩
    · rintro z ⟨v, J⟩ hz ⟨i1, i2, i3, i4, i5, i6⟩ hnext
      dsimp only at i1 i2 i3 i4 i5 i6
      have e3 : wB st D x (z + 1) = if 0 < st (8 * x + z) ∧ 100 * st (8 * x + z) + 1 + D (8 * x + z) < (wB st D x z).1 then (100 * st (8 * x + z) + 1 + D (8 * x + z), z) else wB st D x z := rfl
      rw [e3] at hnext
      have hnz : (n ≤ z) = False := eq_false (by omega)
      have b1 := h9 (8 * x + z) (by omega)
      have e80 := i1.1 80 (by decide) (by decide)
      have e81 := i1.1 81 (by decide) (by decide)
      have b5 := (wB_sp st D x z).1
      change v = _ at i4
      refine b_X11_waysTo_73_p37 ?_
      by_cases hs0 : st (8 * x + z) ≤ 0
      · have hs1 : (st (8 * x + z) ≤ 0) = True := eq_true hs0
        simp (disch := omega) only [pk_mul, nI_add, ksub, kdv, kd8, kd64, kd2, kd3, km8, km64, kt8, ke8, ke64, kcl, kin, kle, klt, keq, up_s, up_n, up_u, true_and, and_true, false_implies, true_implies, not_false_eq_true, not_true_eq_false, e80, e81, h80, h81, hnz, hs1]
        rw [if_neg (by omega)] at hnext
        exact hnext (v, J) ⟨i1, i2, i3, i4, i5, i6⟩
      · have hs1 : (st (8 * x + z) ≤ 0) = False := eq_false hs0
        have hFz := i2 (8 * x + z) (by omega) (by omega)
        change J 88 (8 * x + z) = _ at hFz
        have d1 := (hD (8 * x + z) (by omega) (by omega)).1
        simp (disch := omega) only [pk_mul, nI_add, ksub, kdv, kd8, kd64, kd2, kd3, km8, km64, kt8, ke8, ke64, kcl, kin, kle, klt, keq, up_s, up_n, up_u, true_and, and_true, false_implies, true_implies, not_false_eq_true, not_true_eq_false, e80, e81, h80, h81, hnz, hs1, hFz]
        refine ⟨fun hl => ?_, fun hl => ?_⟩
        · rw [if_pos ⟨by omega, by omega⟩] at hnext
          refine hnext (100 * st (8 * x + z) + 1 + D (8 * x + z), va_up J 89 (va_up (J 89) 1 (nI z))) ⟨fr_up i1 rfl, i2, i3, rfl, fun _ => ?_, i6⟩
          show va_up J 89 (va_up (J 89) 1 (nI z)) 89 1 = _
          rw [up_s, up_s]
        · rw [if_neg (by omega)] at hnext
          exact hnext (v, J) ⟨i1, i2, i3, i4, i5, i6⟩
    · rintro ⟨v, J⟩ ⟨i1, i2, i3, i4, i5, i6⟩
      dsimp only at i1 i2 i3 i4 i5 i6
      have hnn : (n ≤ n) = True := eq_true (Nat.le_refl _)
      have e80 := i1.1 80 (by decide) (by decide)
      change v = _ at i4
      refine b_X11_waysTo_73_p37 ?_
      simp (disch := omega) only [pk_mul, nI_add, ksub, kdv, kd8, kd64, kd2, kd3, km8, km64, kt8, ke8, ke64, kcl, kin, kle, klt, keq, up_s, up_n, up_u, true_and, and_true, false_implies, true_implies, not_false_eq_true, not_true_eq_false, e80, h80, hnn]
      refine ⟨fun hl => ?_, fun hl => ?_⟩
      · rw [i4] at hl
        obtain ⟨v1, v2, v3⟩ := w3 hl
        have i5' := i5 (by show v < _; omega)
        change J 89 1 = _ at i5'
        change J 89 0 = _ at i3
        have hf : D (8 * x + (wB st D x 8).2) < 100000000 := by omega
        obtain ⟨s1, s2, s3⟩ := wS_sp hD hk (show 8 * x + (wB st D x 8).2 < 64 from by omega) v2 hf
        have hl2 : (wB st (wD st (tcf nw b) g) x 8).1 < 100000000 := by rw [hDD]; exact hl
        have hA : ∀ i, i ≤ wS st (tcf nw b) D g (8 * x + (wB st D x 8).2) → 8 * wR st (tcf nw b) g x i + wR st (tcf nw b) g x (i + 1) = pA st (tcf nw b) D (8 * x + (wB st D x 8).2) i ∧ wR st (tcf nw b) g x i < 8 ∧ wR st (tcf nw b) g x (i + 1) < 8 := by
          intro i hi
          have := wR_arc (i := i) hk (show x < 8 from by omega) hl2 (by rw [hDD]; exact hi)
          rw [hDD] at this
          exact this
        have hRs : ∀ i, wR st (tcf nw b) g x (i + 1) = pA st (tcf nw b) D (8 * x + (wB st D x 8).2) i % 8 := by
          intro i
          rw [← hDD]
          rfl
        refine lp_up (n := wS st (tcf nw b) D g (8 * x + (wB st D x 8).2)) (S := Nat → Nat → Int32) (T := fun _ J => T_X11_waysTo_73_p126 e (nI g) (nI v) J L Q) (fun i J => fr [88, 89] [27, 28] I J ∧ (∀ a, a < 64 → 0 < st a → J 88 a = nI (D a)) ∧ J 73 28 = nI b ∧ J 73 27 = nI (i + 2) ∧ ∀ j, j < i + 2 → J 89 j = nI (wR st (tcf nw b) g x j)) ?_ ?_ 0 _ (Nat.zero_le _) ⟨fr_73 i1 rfl, i2, i6, rfl, fun j hj => ?_⟩
        · intro i J hi ⟨k1, k2, k3, k4, k5⟩ hnext
          obtain ⟨a1, a2, a3⟩ := hA i (by omega)
          obtain ⟨p1, p2, p3, p4, p5⟩ := pA_sp hD (show 8 * x + (wB st D x 8).2 < 64 from by omega) v2 hf i (fun j hj => s3 j (by omega))
          have r1 := k5 i (by omega)
          have r2 := k5 (i + 1) (by omega)
          refine b_X11_waysTo_73_p126 ?_
          have q1 : i + 2 - 1 = i + 1 := by omega
          have q2 : i + 2 - 2 = i := by omega
          have q3 : (wR st (tcf nw b) g x (i + 1) = g) = False := eq_false (by rw [hRs]; exact s3 i hi)
          simp (disch := omega) only [pk_mul, nI_add, ksub, kdv, kd8, kd64, kd2, kd3, km8, km64, kt8, ke8, ke64, kcl, kin, kle, klt, keq, up_s, up_n, up_u, true_and, and_true, false_implies, true_implies, not_false_eq_true, not_true_eq_false, k4, q1, q2, r1, r2, q3]
          refine c_goesOn (i := i + 2) (g := g) (D := D) ⟨mwQ_c hR2 (k1.1 80 (by decide) (by decide)) (k1.1 81 (by decide) (by decide)) (k1.1 87 (by decide) (by decide)), k3, hb⟩ k2 hD a2 a3 (by rw [a1]; exact p2) (by rw [a1]; exact p3) (by rw [hRs]; exact s3 i hi) k4 (by omega) ?_
          refine hnext _ ⟨fr_73 (fr_up k1 rfl) rfl, k2, k3, rfl, fun j hj => ?_⟩
          show va_up (J 89) (i + 2) _ j = _
          by_cases he : j = i + 2
          · rw [he, up_s, a1, hRs (i + 1)]
            show nI (nxt st (tcf nw b) D (pA st (tcf nw b) D (8 * x + (wB st D x 8).2) i)) = nI ((8 * (pA st (tcf nw b) D (8 * x + (wB st D x 8).2) i % 8) + nxt st (tcf nw b) D (pA st (tcf nw b) D (8 * x + (wB st D x 8).2) i)) % 8)
            have := (nxt_sp hD p1 p2 p3 (s3 i hi)).1
            rw [show (8 * (pA st (tcf nw b) D (8 * x + (wB st D x 8).2) i % 8) + nxt st (tcf nw b) D (pA st (tcf nw b) D (8 * x + (wB st D x 8).2) i)) % 8 = nxt st (tcf nw b) D (pA st (tcf nw b) D (8 * x + (wB st D x 8).2) i) from by omega]
          · rw [up_n he]
            exact k5 j (by omega)
        · intro J ⟨k1, k2, k3, k4, k5⟩
          refine b_X11_waysTo_73_p126 ?_
          have r2 := k5 (wS st (tcf nw b) D g (8 * x + (wB st D x 8).2) + 1) (by omega)
          have q1 : wS st (tcf nw b) D g (8 * x + (wB st D x 8).2) + 2 - 1 = wS st (tcf nw b) D g (8 * x + (wB st D x 8).2) + 1 := by omega
          have q3 : wR st (tcf nw b) g x (wS st (tcf nw b) D g (8 * x + (wB st D x 8).2) + 1) = g := by rw [hRs]; exact s2
          rw [q3] at r2
          have qT : (nI g = nI g) = True := eq_true rfl
          simp (disch := omega) only [pk_mul, nI_add, ksub, kdv, kd8, kd64, kd2, kd3, km8, km64, kt8, ke8, ke64, kcl, kin, kle, klt, keq, up_s, up_n, up_u, true_and, and_true, false_implies, true_implies, not_false_eq_true, not_true_eq_false, k4, q1, r2, qT]
          rw [i4]
          exact hQ J k1 (fun _ => ⟨k4, k5⟩)
        · show J 89 j = _
          by_cases he : j = 0
          · rw [he]; exact i3
          · have : j = 1 := by omega
            rw [this, i5', hRs 0]
            show _ = nI ((8 * x + (wB st D x 8).2) % 8)
            rw [show (8 * x + (wB st D x 8).2) % 8 = (wB st D x 8).2 from by omega]
      · have h6 := hQ J i1 (fun h => absurd h (by omega))
        have h7 : (wB st D x 8).1 = 100000000 := by omega
        rw [h7] at h6
        exact h6
end MW2
