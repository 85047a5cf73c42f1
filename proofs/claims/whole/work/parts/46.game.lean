/-! the game of turning -/
/-- the least crossing by which one wins with u uses left, 8: none -/
def gw : Nat → (Nat → Nat) → Nat → Nat
  | 0, _, _ => 8
  | u + 1, nw, a => ff (fun z => decide (0 < nw (8 * a + z)) && decide (gw u (va_up nw (8 * a + z) (nw (8 * a + z) - 1)) (8 * (a % 8) + z) = 8)) 8
theorem gw_8 (u : Nat) (nw : Nat → Nat) (a : Nat) : gw u nw a ≤ 8 := by
  cases u with
  | zero => exact Nat.le_refl _
  | succ u => exact (ff_sp _ 8).1
def gwp (u : Nat) (nw : Nat → Nat) (a z : Nat) : Bool := decide (0 < nw (8 * a + z)) && decide (gw u (va_up nw (8 * a + z) (nw (8 * a + z) - 1)) (8 * (a % 8) + z) = 8)
theorem gw_s (u : Nat) (nw : Nat → Nat) (a : Nat) : gw (u + 1) nw a = ff (gwp u nw a) 8 := rfl
theorem sm_up {f : Nat → Nat} {n k v : Nat} (hk : k < n) : sm (va_up f k v) n + f k = sm f n + v := by
  induction n with
  | zero => omega
  | succ n ih =>
    show sm (va_up f k v) n + va_up f k v n + f k = sm f n + f n + v
    by_cases he : k = n
    · subst he
      have : sm (va_up f k v) k = sm f k := sm_c (fun j hj => up_n (by omega))
      rw [this, up_s]
      omega
    · have := ih (by omega)
      rw [up_n (fun h => he h.symm)]
      omega
theorem sm_ge {f : Nat → Nat} {n k : Nat} (hk : k < n) : f k ≤ sm f n := by
  have h1 := sm_up (f := f) (n := n) (k := k) (v := 0) hk
  omega
theorem up_back {nw : Nat → Nat} {k : Nat} : va_up (va_up nw k (nw k - 1)) k (nw k) = nw := by
  rw [up_u]
  exact up_id nw k
theorem km101 {n : Nat} (h : n < 2147483648) : (nI n = (-101 : Int32)) = False ∧ (nI n = (-102 : Int32)) = False := by
  constructor
  · refine eq_false (fun he => ?_)
    have := congrArg Int32.toInt he
    rw [nI_toInt h] at this
    have h2 : (-101 : Int32).toInt = -101 := by decide
    omega
  · refine eq_false (fun he => ?_)
    have := congrArg Int32.toInt he
    rw [nI_toInt h] at this
    have h2 : (-102 : Int32).toInt = -102 := by decide
    omega
theorem c_winT {e : am_V} {I : Nat → Nat → Int32} {L : Nat → Nat → Int64} {t : tw} (hC : CT t I) (hk : tok t) : ∀ (u d : Nat) (nw : Nat → Nat) (F : Nat → Int32) (a : Nat) (Q : Int32 → (Nat → Nat → Int32) → Prop), u + 1 ≤ d → u ≤ 1000 → a < 64 → 0 < t 1 a → (∀ k, k < 512 → nw k ≤ 1000) → (∀ k, k < 512 → tB t k = false → nw k = 0) → (∀ k, k < 512 → tB t k = true → F k = nI (nw k)) → (∀ F', (∀ k, k < 512 → tB t k = true → F' k = nI (nw k)) → Q (if gw u nw a = 8 then (-101 : Int32) else nI (gw u nw a)) (va_up I 66 F')) → C_X1_winningTurn_65_3 e d (nI a) (nI u) (va_up I 66 F) L Q := by
  obtain ⟨c0, c1, c2, c3, c4, c5, c6, c7, c8, cS, cD, cN, cA, cT, cM, cR, cF, cO, cH, cL⟩ := hC
  obtain ⟨o0, oT, oZ, oY, oD, o9, oN, o28, oB, oX, oE, oF, oA, oH, oU, oV⟩ := hk
  have hln : ∀ y, (nb t y).length ≤ 8 := fun y => by rw [cn_fl]; exact cn_n _ _
  intro u
  induction u with
  | zero =>
    intro d nw F a Q hd hu ha hs hb hz hF hQ
    obtain ⟨d', rfl⟩ : ∃ d', d = d' + 1 := ⟨d - 1, by omega⟩
    have q1 : (0 < 0) = False := eq_false (by omega)
    refine b_X1_winningTurn_65_3 ?_
    simp (disch := omega) only [pk_mul, nI_add, ksub, kdv, kd8, kd64, kd2, kd3, km8, km64, kt8, ke8, ke64, kcl, kin, kle, klt, keq, up_s, up_n, up_u, true_and, and_true, false_implies, true_implies, not_false_eq_true, not_true_eq_false, q1]
    have h1 := hQ F hF
    rw [if_pos (show gw 0 nw a = 8 from rfl)] at h1
    exact h1
  | succ u ih =>
    intro d nw F a Q hd hu ha hs hb hz hF hQ
    obtain ⟨d', rfl⟩ : ∃ d', d = d' + 1 := ⟨d - 1, by omega⟩
    have q1 : (0 < u + 1) = True := eq_true (by omega)
    refine b_X1_winningTurn_65_3 ?_
    simp (disch := omega) only [pk_mul, nI_add, ksub, kdv, kd8, kd64, kd2, kd3, km8, km64, kt8, ke8, ke64, kcl, kin, kle, klt, keq, up_s, up_n, up_u, true_and, and_true, false_implies, true_implies, not_false_eq_true, not_true_eq_false, q1]
    rw [gw_s] at hQ
    have e5 := cD (a % 8) (by omega)
    have hlni := hln (a % 8)
    refine lp_fl (l := nb t (a % 8)) rfl (N := 8) (p := nbp t (a % 8)) (S := Nat → Int32) (T := fun i F => T_X1_winningTurn_65_3_p16 e (d' + 1) (nI a) (nI (u + 1)) (nI (a % 8)) (nI i) (va_up I 66 F) L Q) (fun z F => (∀ k, k < 512 → tB t k = true → F k = nI (nw k)) ∧ ∀ z', z' < z → gwp u nw a z' = false) ?_ ?_ ?_ F ⟨hF, fun z' h => absurd h (Nat.not_lt_zero _)⟩
    · rintro z F hz8 hp ⟨i1, i2⟩
      refine ⟨i1, fun z' hz' => ?_⟩
      by_cases he : z' = z
      · rw [he]
        unfold gwp
        have hnt : tB t (8 * a + z) = false := by
          cases hp2 : tB t (8 * a + z) with
          | false => rfl
          | true =>
            have h5 := (tB_i.mp hp2).2
            rw [show (8 * a + z) % 64 = 8 * (a % 8) + z from by omega] at h5
            unfold nbp at hp
            rw [decide_eq_true h5] at hp
            cases hp
        rw [hz _ (by omega) hnt]
        rfl
      · exact i2 z' (by omega)
    · rintro z i F hz8 hp hi hiz ⟨i1, i2⟩ hnext
      have hsz : 0 < t 1 (8 * (a % 8) + z) := by unfold nbp at hp; simpa using hp
      have g1 : ((nb t (a % 8)).length ≤ i) = False := eq_false (by omega)
      have e6 := cN (a % 8) (by omega) i hi
      rw [hiz] at e6
      have hT : tB t (8 * a + z) = true := by
        rw [tB_i, show (8 * a + z) / 8 = a from by omega, show (8 * a + z) % 64 = 8 * (a % 8) + z from by omega]
        exact ⟨hs, hsz⟩
      have er := i1 (8 * a + z) (by omega) hT
      have bd := hb (8 * a + z) (by omega)
      have q4 : (8 * a + z) % 64 = 8 * (a % 8) + z := by omega
      refine b_X1_winningTurn_65_3_p16 ?_
      simp (disch := omega) only [pk_mul, nI_add, ksub, kdv, kd8, kd64, kd2, kd3, km8, km64, kt8, ke8, ke64, kcl, kin, kle, klt, keq, up_s, up_n, up_u, true_and, and_true, false_implies, true_implies, not_false_eq_true, not_true_eq_false, e5, e6, g1, er, q4]
      refine ⟨fun h0 => hnext F ⟨i1, fun z' hz' => ?_⟩, fun h0 => ?_⟩
      · by_cases he : z' = z
        · rw [he]
          unfold gwp
          rw [decide_eq_false (by omega)]
          rfl
        · exact i2 z' (by omega)
      · have h01 : 1 ≤ nw (8 * a + z) := by omega
        have q5 : u + 1 - 1 = u := by omega
        simp (disch := omega) only [pk_mul, nI_add, ksub, kdv, kd8, kd64, kd2, kd3, km8, km64, kt8, ke8, ke64, kcl, kin, kle, klt, keq, up_s, up_n, up_u, true_and, and_true, false_implies, true_implies, not_false_eq_true, not_true_eq_false, q5]
        refine ih d' (va_up nw (8 * a + z) (nw (8 * a + z) - 1)) _ (8 * (a % 8) + z) _ (by omega) (by omega) (by omega) hsz (fun k hk5 => ?_) (fun k hk5 hp5 => ?_) (fun k hk5 hp5 => ?_) (fun F' hF' => ?_)
        · by_cases he : k = 8 * a + z
          · rw [he, up_s]; omega
          · rw [up_n he]; exact hb k hk5
        · by_cases he : k = 8 * a + z
          · rw [he] at hp5; rw [hT] at hp5; cases hp5
          · rw [up_n he]; exact hz k hk5 hp5
        · by_cases he : k = 8 * a + z
          · rw [he, up_s, up_s]
          · rw [up_n he, up_n he]; exact i1 k hk5 hp5
        · have e66 := hF' (8 * a + z) (by omega) hT
          rw [up_s] at e66
          have q6 : nw (8 * a + z) - 1 + 1 = nw (8 * a + z) := by omega
          have hF2 : ∀ k, k < 512 → tB t k = true → va_up F' (8 * a + z) (nI (nw (8 * a + z))) k = nI (nw k) := by
            intro k hk5 hp5
            by_cases he : k = 8 * a + z
            · rw [he, up_s]
            · rw [up_n he, hF' k hk5 hp5, up_n he]
          by_cases hg : gw u (va_up nw (8 * a + z) (nw (8 * a + z) - 1)) (8 * (a % 8) + z) = 8
          · have hpz : gwp u nw a z = true := by
              unfold gwp
              rw [decide_eq_true (show 0 < nw (8 * a + z) from by omega), decide_eq_true hg]
              rfl
            have hff : ff (gwp u nw a) 8 = z := ff_eq hz8 hpz i2
            rw [if_pos hg]
            have qT : ((-101 : Int32) = (-101 : Int32)) = True := eq_true rfl
            simp (disch := omega) only [pk_mul, nI_add, ksub, kdv, kd8, kd64, kd2, kd3, km8, km64, kt8, ke8, ke64, kcl, kin, kle, klt, keq, up_s, up_n, up_u, true_and, and_true, false_implies, true_implies, not_false_eq_true, not_true_eq_false, e66, q6, qT]
            rw [hff, if_neg (by omega)] at hQ
            exact hQ _ hF2
          · have g8 := gw_8 u (va_up nw (8 * a + z) (nw (8 * a + z) - 1)) (8 * (a % 8) + z)
            rw [if_neg hg]
            have qF := (km101 (n := gw u (va_up nw (8 * a + z) (nw (8 * a + z) - 1)) (8 * (a % 8) + z)) (by omega)).1
            simp (disch := omega) only [pk_mul, nI_add, ksub, kdv, kd8, kd64, kd2, kd3, km8, km64, kt8, ke8, ke64, kcl, kin, kle, klt, keq, up_s, up_n, up_u, true_and, and_true, false_implies, true_implies, not_false_eq_true, not_true_eq_false, e66, q6, qF]
            refine hnext _ ⟨hF2, fun z' hz' => ?_⟩
            by_cases he : z' = z
            · rw [he]
              unfold gwp
              rw [decide_eq_false hg, Bool.and_false]
            · exact i2 z' (by omega)
    · rintro F ⟨i1, i2⟩
      have g1 : ((nb t (a % 8)).length ≤ (nb t (a % 8)).length) = True := eq_true (Nat.le_refl _)
      refine b_X1_winningTurn_65_3_p16 ?_
      simp (disch := omega) only [pk_mul, nI_add, ksub, kdv, kd8, kd64, kd2, kd3, km8, km64, kt8, ke8, ke64, kcl, kin, kle, klt, keq, up_s, up_n, up_u, true_and, and_true, false_implies, true_implies, not_false_eq_true, not_true_eq_false, e5, g1]
      have hff : ff (gwp u nw a) 8 = 8 := ff_no i2
      rw [hff, if_pos rfl] at hQ
      exact hQ F i1
theorem c_winsBy0 {e : am_V} {I : Nat → Nat → Int32} {L : Nat → Nat → Int64} {t : tw} (u : Nat)
    (ih : ∀ (d : Nat) (nw : Nat → Nat) (F : Nat → Int32) (x y : Nat) (Q : Int32 → (Nat → Nat → Int32) → Prop), 2 * u + 1 ≤ d → x < 8 → y < 8 → (∀ k, k < 512 → nw k ≤ 1000) → (∀ k, k < 512 → tB t k = false → nw k = 0) → (∀ k, k < 512 → F k = nI (nw k)) → sm nw 512 = u → (∀ F', (∀ k, k < 512 → F' k = nI (nw k)) → Q (nI (if gw u nw (8 * x + y) = 8 then 0 else 1)) (va_up I 87 F')) → C_X11_winsFrom_73 e d (nI x) (nI y) (va_up I 87 F) L Q)
    {d : Nat} {nw : Nat → Nat} {F : Nat → Int32} {x y z : Nat} {Q : Int32 → (Nat → Nat → Int32) → Prop} (hd : 2 * u + 2 ≤ d) (hx : x < 8) (hy : y < 8) (hz8 : z < 8) (hb : ∀ k, k < 512 → nw k ≤ 1000) (hz : ∀ k, k < 512 → tB t k = false → nw k = 0) (hF : ∀ k, k < 512 → F k = nI (nw k)) (hs : sm nw 512 = u + 1) (hp : 0 < nw (64 * x + 8 * y + z)) (hQ : ∀ F', (∀ k, k < 512 → F' k = nI (nw k)) → Q (nI (if gw u (va_up nw (64 * x + 8 * y + z) (nw (64 * x + 8 * y + z) - 1)) (8 * y + z) = 8 then 1 else 0)) (va_up I 87 F')) : C_X11_winsBy_73 e d (nI x) (nI y) (nI z) (va_up I 87 F) L Q := by
  obtain ⟨d', rfl⟩ : ∃ d', d = d' + 1 := ⟨d - 1, by omega⟩
  have e1 := hF (64 * x + 8 * y + z) (by omega)
  have bd := hb (64 * x + 8 * y + z) (by omega)
  have hsu := sm_up (f := nw) (n := 512) (k := 64 * x + 8 * y + z) (v := nw (64 * x + 8 * y + z) - 1) (by omega)
  refine b_X11_winsBy_73 ?_
  simp (disch := omega) only [pk_mul, nI_add, ksub, kdv, kd8, kd64, kd2, kd3, km8, km64, kt8, ke8, ke64, kcl, kin, kle, klt, keq, up_s, up_n, up_u, true_and, and_true, false_implies, true_implies, not_false_eq_true, not_true_eq_false, e1]
  refine ih d' (va_up nw (64 * x + 8 * y + z) (nw (64 * x + 8 * y + z) - 1)) _ y z _ (by omega) hy hz8 (fun k hk5 => ?_) (fun k hk5 hp5 => ?_) (fun k hk5 => ?_) (by omega) (fun F' hF' => ?_)
  · by_cases he : k = 64 * x + 8 * y + z
    · rw [he, up_s]; omega
    · rw [up_n he]; exact hb k hk5
  · by_cases he : k = 64 * x + 8 * y + z
    · rw [he] at hp5
      have := hz _ (by omega) hp5
      omega
    · rw [up_n he]; exact hz k hk5 hp5
  · by_cases he : k = 64 * x + 8 * y + z
    · rw [he, up_s, up_s]
    · rw [up_n he, up_n he]; exact hF k hk5
  · have e66 := hF' (64 * x + 8 * y + z) (by omega)
    rw [up_s] at e66
    have q6 : nw (64 * x + 8 * y + z) - 1 + 1 = nw (64 * x + 8 * y + z) := by omega
    have hF2 : ∀ k, k < 512 → va_up F' (64 * x + 8 * y + z) (nI (nw (64 * x + 8 * y + z))) k = nI (nw k) := by
      intro k hk5
      by_cases he : k = 64 * x + 8 * y + z
      · rw [he, up_s]
      · rw [up_n he, hF' k hk5, up_n he]
    by_cases hg : gw u (va_up nw (64 * x + 8 * y + z) (nw (64 * x + 8 * y + z) - 1)) (8 * y + z) = 8
    · rw [if_pos hg] at hQ ⊢
      have qT : ((0 : Nat) = 0) = True := eq_true rfl
      simp (disch := omega) only [pk_mul, nI_add, ksub, kdv, kd8, kd64, kd2, kd3, km8, km64, kt8, ke8, ke64, kcl, kin, kle, klt, keq, up_s, up_n, up_u, true_and, and_true, false_implies, true_implies, not_false_eq_true, not_true_eq_false, e66, q6, qT]
      exact hQ _ hF2
    · rw [if_neg hg] at hQ ⊢
      have qT : ((1 : Nat) = 0) = False := eq_false (by decide)
      simp (disch := omega) only [pk_mul, nI_add, ksub, kdv, kd8, kd64, kd2, kd3, km8, km64, kt8, ke8, ke64, kcl, kin, kle, klt, keq, up_s, up_n, up_u, true_and, and_true, false_implies, true_implies, not_false_eq_true, not_true_eq_false, e66, q6, qT]
      exact hQ _ hF2
theorem c_winsFrom {e : am_V} {I : Nat → Nat → Int32} {L : Nat → Nat → Int64} {t : tw} (hM : MT t I) (hk : tok t) : ∀ (u d : Nat) (nw : Nat → Nat) (F : Nat → Int32) (x y : Nat) (Q : Int32 → (Nat → Nat → Int32) → Prop), 2 * u + 1 ≤ d → x < 8 → y < 8 → (∀ k, k < 512 → nw k ≤ 1000) → (∀ k, k < 512 → tB t k = false → nw k = 0) → (∀ k, k < 512 → F k = nI (nw k)) → sm nw 512 = u → (∀ F', (∀ k, k < 512 → F' k = nI (nw k)) → Q (nI (if gw u nw (8 * x + y) = 8 then 0 else 1)) (va_up I 87 F')) → C_X11_winsFrom_73 e d (nI x) (nI y) (va_up I 87 F) L Q := by
  obtain ⟨m0, m1, m2, m3, m4, m5, mS, mU, mL, mF, mO, mH, mA, mK⟩ := hM
  obtain ⟨o0, oT, oZ, oY, oD, o9, oN, o28, oB, oX, oE, oF, oA, oH, oU, oV⟩ := hk
  intro u
  have hnt : ∀ (x y z : Nat) (nw : Nat → Nat), x < 8 → y < 8 → z < 8 → t 0 0 ≤ z → (∀ k, k < 512 → tB t k = false → nw k = 0) → nw (64 * x + 8 * y + z) = 0 := by
    intro x y z nw hx hy hz hn hzz
    refine hzz _ (by omega) ?_
    cases hp2 : tB t (64 * x + 8 * y + z) with
    | false => rfl
    | true =>
      have h5 := (tB_i.mp hp2).2
      have h6 := oN y hy z hz (by rw [show 8 * y + z = (64 * x + 8 * y + z) % 64 from by omega]; exact h5)
      omega
  induction u with
  | zero =>
    intro d nw F x y Q hd hx hy hb hz hF hs hQ
    obtain ⟨d', rfl⟩ : ∃ d', d = d' + 1 := ⟨d - 1, by omega⟩
    refine b_X11_winsFrom_73 ?_
    refine lp_up (n := t 0 0) (S := Unit) (T := fun z _ => T_X11_winsFrom_73_p2 e (d' + 1) (nI x) (nI y) (nI z) (va_up I 87 F) L Q) (fun _ _ => True) ?_ ?_ 0 () (Nat.zero_le _) trivial
    · intro z _ hz8 _ hnext
      have q1 : (t 0 0 ≤ z) = False := eq_false (by omega)
      have e1 := hF (64 * x + 8 * y + z) (by omega)
      have h0 := sm_ge (f := nw) (n := 512) (k := 64 * x + 8 * y + z) (by omega)
      have q2 : (nw (64 * x + 8 * y + z) ≤ 0) = True := eq_true (by omega)
      refine b_X11_winsFrom_73_p2 ?_
      simp (disch := omega) only [pk_mul, nI_add, ksub, kdv, kd8, kd64, kd2, kd3, km8, km64, kt8, ke8, ke64, kcl, kin, kle, klt, keq, up_s, up_n, up_u, true_and, and_true, false_implies, true_implies, not_false_eq_true, not_true_eq_false, m1, q1, e1, q2]
      exact hnext () trivial
    · intro _ _
      have q1 : (t 0 0 ≤ t 0 0) = True := eq_true (Nat.le_refl _)
      refine b_X11_winsFrom_73_p2 ?_
      simp (disch := omega) only [pk_mul, nI_add, ksub, kdv, kd8, kd64, kd2, kd3, km8, km64, kt8, ke8, ke64, kcl, kin, kle, klt, keq, up_s, up_n, up_u, true_and, and_true, false_implies, true_implies, not_false_eq_true, not_true_eq_false, m1, q1]
      have h1 := hQ F hF
      rw [if_pos (show gw 0 nw (8 * x + y) = 8 from rfl)] at h1
      exact h1
  | succ u ih =>
    intro d nw F x y Q hd hx hy hb hz hF hs hQ
    obtain ⟨d', rfl⟩ : ∃ d', d = d' + 1 := ⟨d - 1, by omega⟩
    rw [gw_s] at hQ
    refine b_X11_winsFrom_73 ?_
    have hk0 : ∀ z, 8 * (8 * x + y) + z = 64 * x + 8 * y + z := fun z => by omega
    have hk1 : (8 * x + y) % 8 = y := by omega
    refine lp_ux (n := t 0 0) (N := 8) (S := Nat → Int32) (T := fun z F => T_X11_winsFrom_73_p2 e (d' + 1) (nI x) (nI y) (nI z) (va_up I 87 F) L Q) (fun z F => (∀ k, k < 512 → F k = nI (nw k)) ∧ ∀ z', z' < z → gwp u nw (8 * x + y) z' = false) o0 ?_ ?_ ?_ F ⟨hF, fun z' h => absurd h (Nat.not_lt_zero _)⟩
    · rintro z F hz1 hz2 ⟨i1, i2⟩
      refine ⟨i1, fun z' hz' => ?_⟩
      by_cases he : z' = z
      · rw [he]
        unfold gwp
        rw [hk0, hnt x y z nw hx hy hz2 hz1 hz]
        rfl
      · exact i2 z' (by omega)
    · rintro z F hz8 ⟨i1, i2⟩ hnext
      have q1 : (t 0 0 ≤ z) = False := eq_false (by omega)
      have e1 := i1 (64 * x + 8 * y + z) (by omega)
      have bd := hb (64 * x + 8 * y + z) (by omega)
      refine b_X11_winsFrom_73_p2 ?_
      simp (disch := omega) only [pk_mul, nI_add, ksub, kdv, kd8, kd64, kd2, kd3, km8, km64, kt8, ke8, ke64, kcl, kin, kle, klt, keq, up_s, up_n, up_u, true_and, and_true, false_implies, true_implies, not_false_eq_true, not_true_eq_false, m1, q1, e1]
      refine ⟨fun h0 => hnext F ⟨i1, fun z' hz' => ?_⟩, fun h0 => ?_⟩
      · by_cases he : z' = z
        · rw [he]
          unfold gwp
          rw [hk0, decide_eq_false (by omega)]
          rfl
        · exact i2 z' (by omega)
      · refine c_winsBy0 (t := t) u (fun d nw F x y Q h1 h2 h3 h4 h5 h6 h7 h8 => ih d nw F x y Q h1 h2 h3 h4 h5 h6 h7 h8) (by omega) hx hy (by omega) hb hz i1 hs (by omega) (fun F' hF' => ?_)
        by_cases hg : gw u (va_up nw (64 * x + 8 * y + z) (nw (64 * x + 8 * y + z) - 1)) (8 * y + z) = 8
        · have hpz : gwp u nw (8 * x + y) z = true := by
            unfold gwp
            rw [hk0, hk1, decide_eq_true (show 0 < nw (64 * x + 8 * y + z) from by omega), decide_eq_true hg]
            rfl
          have hff : ff (gwp u nw (8 * x + y)) 8 = z := ff_eq (by omega) hpz i2
          rw [hff, if_neg (by omega)] at hQ
          rw [if_pos hg]
          exact ⟨fun h => absurd h (by decide), fun _ => hQ F' hF'⟩
        · rw [if_neg hg]
          refine ⟨fun _ => hnext F' ⟨hF', fun z' hz' => ?_⟩, fun h => absurd rfl h⟩
          by_cases he : z' = z
          · rw [he]
            unfold gwp
            rw [hk0, hk1, decide_eq_false hg, Bool.and_false]
          · exact i2 z' (by omega)
    · rintro F ⟨i1, i2⟩
      have q1 : (t 0 0 ≤ t 0 0) = True := eq_true (Nat.le_refl _)
      refine b_X11_winsFrom_73_p2 ?_
      simp (disch := omega) only [pk_mul, nI_add, ksub, kdv, kd8, kd64, kd2, kd3, km8, km64, kt8, ke8, ke64, kcl, kin, kle, klt, keq, up_s, up_n, up_u, true_and, and_true, false_implies, true_implies, not_false_eq_true, not_true_eq_false, m1, q1]
      have hff : ff (gwp u nw (8 * x + y)) 8 = 8 := ff_no i2
      rw [hff, if_pos rfl] at hQ
      exact hQ F i1
theorem q_wins {e : am_V} {I : Nat → Nat → Int32} {L : Nat → Nat → Int64} {t : tw} {Q : Int32 → Int32 → (Nat → Nat → Int32) → Prop} {v1 : Int32} {v2 : Int32} (hC : CT t I) (hM : MT t I) (hk : tok t) (hQ : ∀ r J, fr SC FC I J → Q r r J) : C_X10_wins_0 e v1 v2 I L (fun r J => C_X11_wins_73 e v1 v2 J L (fun r' K => Q r r' K)) := by
  have hC2 := hC
  have hM2 := hM
  have hk2 := hk
  obtain ⟨c0, c1, c2, c3, c4, c5, c6, c7, c8, cS, cD, cN, cA, cT, cM, cR, cF, cO, cH, cL⟩ := hC
  obtain ⟨m0, m1, m2, m3, m4, m5, mS, mU, mL, mF, mO, mH, mA, mK⟩ := hM
  obtain ⟨o0, oT, oZ, oY, oD, o9, oN, o28, oB, oX, oE, oF, oA, oH, oU, oV⟩ := hk
  have f0 : fr SC FC I (va_up I 73 (va_up (I 73) 0 (nI 0))) := fr_73 (fr_refl _ _ _) rfl
  rcases crs v1 (t 0 0) (by omega) with ax | ⟨ax, dx⟩ | ⟨x, hx, rfl⟩
  · (refine b_X10_wins_0 ?_; simp (disch := omega) only [pk_mul, nI_add, ksub, kdv, kd8, kd64, kd2, kd3, km8, km64, kt8, ke8, ke64, kcl, kin, kle, klt, keq, up_s, up_n, up_u, true_and, and_true, false_implies, true_implies, not_false_eq_true, not_true_eq_false, ax, c0, knl]; refine b_X11_wins_73 ?_; simp (disch := omega) only [pk_mul, nI_add, ksub, kdv, kd8, kd64, kd2, kd3, km8, km64, kt8, ke8, ke64, kcl, kin, kle, klt, keq, up_s, up_n, up_u, true_and, and_true, false_implies, true_implies, not_false_eq_true, not_true_eq_false, ax, m1, kzl, kcz, knl]; exact hQ _ _ f0)
  · (refine b_X10_wins_0 ?_; simp (disch := omega) only [pk_mul, nI_add, ksub, kdv, kd8, kd64, kd2, kd3, km8, km64, kt8, ke8, ke64, kcl, kin, kle, klt, keq, up_s, up_n, up_u, true_and, and_true, false_implies, true_implies, not_false_eq_true, not_true_eq_false, ax, dx, c0, knl]; refine b_X11_wins_73 ?_; simp (disch := omega) only [pk_mul, nI_add, ksub, kdv, kd8, kd64, kd2, kd3, km8, km64, kt8, ke8, ke64, kcl, kin, kle, klt, keq, up_s, up_n, up_u, true_and, and_true, false_implies, true_implies, not_false_eq_true, not_true_eq_false, ax, dx, m1, kzl, kcz, knl]; exact hQ _ _ f0)
  · have gx : (t 0 0 ≤ x) = False := eq_false (by omega)
    rcases crs v2 (t 0 0) (by omega) with ay | ⟨ay, dy⟩ | ⟨y, hy, rfl⟩
    · (refine b_X10_wins_0 ?_; simp (disch := omega) only [pk_mul, nI_add, ksub, kdv, kd8, kd64, kd2, kd3, km8, km64, kt8, ke8, ke64, kcl, kin, kle, klt, keq, up_s, up_n, up_u, true_and, and_true, false_implies, true_implies, not_false_eq_true, not_true_eq_false, gx, ay, c0, knl]; refine b_X11_wins_73 ?_; simp (disch := omega) only [pk_mul, nI_add, ksub, kdv, kd8, kd64, kd2, kd3, km8, km64, kt8, ke8, ke64, kcl, kin, kle, klt, keq, up_s, up_n, up_u, true_and, and_true, false_implies, true_implies, not_false_eq_true, not_true_eq_false, gx, ay, m1, kzl, kcz, knl]; exact hQ _ _ f0)
    · (refine b_X10_wins_0 ?_; simp (disch := omega) only [pk_mul, nI_add, ksub, kdv, kd8, kd64, kd2, kd3, km8, km64, kt8, ke8, ke64, kcl, kin, kle, klt, keq, up_s, up_n, up_u, true_and, and_true, false_implies, true_implies, not_false_eq_true, not_true_eq_false, gx, ay, dy, c0, knl]; refine b_X11_wins_73 ?_; simp (disch := omega) only [pk_mul, nI_add, ksub, kdv, kd8, kd64, kd2, kd3, km8, km64, kt8, ke8, ke64, kcl, kin, kle, klt, keq, up_s, up_n, up_u, true_and, and_true, false_implies, true_implies, not_false_eq_true, not_true_eq_false, gx, ay, dy, m1, kzl, kcz, knl]; exact hQ _ _ f0)
    · have gy : (t 0 0 ≤ y) = False := eq_false (by omega)
      have e1 := cS (8 * x + y) (by omega)
      have e2 := mS (8 * x + y) (by omega)
      have u1 := o9 (8 * x + y) (by omega)
      by_cases hxy : x = y
      · have q1 : (x = y) = True := eq_true hxy
        refine b_X10_wins_0 ?_
        simp (disch := omega) only [pk_mul, nI_add, ksub, kdv, kd8, kd64, kd2, kd3, km8, km64, kt8, ke8, ke64, kcl, kin, kle, klt, keq, up_s, up_n, up_u, true_and, and_true, false_implies, true_implies, not_false_eq_true, not_true_eq_false, c0, knl, q1, gx, gy]
        refine b_X11_wins_73 ?_
        simp (disch := omega) only [pk_mul, nI_add, ksub, kdv, kd8, kd64, kd2, kd3, km8, km64, kt8, ke8, ke64, kcl, kin, kle, klt, keq, up_s, up_n, up_u, true_and, and_true, false_implies, true_implies, not_false_eq_true, not_true_eq_false, m1, kzl, kcz, knl, q1, gx, gy]
        exact hQ _ _ f0
      · have q1 : (x = y) = False := eq_false hxy
        by_cases h1 : t 1 (8 * x + y) ≤ 0
        · have q2 := eq_true h1
          have q3 : (t 1 (8 * x + y) = 0) = True := eq_true (by omega)
          refine b_X10_wins_0 ?_
          simp (disch := omega) only [pk_mul, nI_add, ksub, kdv, kd8, kd64, kd2, kd3, km8, km64, kt8, ke8, ke64, kcl, kin, kle, klt, keq, up_s, up_n, up_u, true_and, and_true, false_implies, true_implies, not_false_eq_true, not_true_eq_false, c0, knl, q1, q3, e1, gx, gy]
          refine b_X11_wins_73 ?_
          simp (disch := omega) only [pk_mul, nI_add, ksub, kdv, kd8, kd64, kd2, kd3, km8, km64, kt8, ke8, ke64, kcl, kin, kle, klt, keq, up_s, up_n, up_u, true_and, and_true, false_implies, true_implies, not_false_eq_true, not_true_eq_false, m1, kzl, kcz, knl, q1, q2, e2, gx, gy]
          exact hQ _ _ f0
        · have q2 := eq_false h1
          have q3 : (t 1 (8 * x + y) = 0) = False := eq_false (by omega)
          have hsb : sm (t 3) 512 ≤ 512 * 9 := sm_bd (fun k hk => (oB k hk).2)
          refine b_X10_wins_0 ?_
          simp (disch := omega) only [pk_mul, nI_add, ksub, kdv, kd8, kd64, kd2, kd3, km8, km64, kt8, ke8, ke64, kcl, kin, kle, klt, keq, up_s, up_n, up_u, true_and, and_true, false_implies, true_implies, not_false_eq_true, not_true_eq_false, c0, knl, q1, q3, e1, gx, gy]
          refine c_sum_10 hC2 cR oX ?_
          by_cases hu : sm (t 3) 512 ≤ 12
          · have q4 := eq_true hu
            simp (disch := omega) only [pk_mul, nI_add, ksub, kdv, kd8, kd64, kd2, kd3, km8, km64, kt8, ke8, ke64, kcl, kin, kle, klt, keq, up_s, up_n, up_u, true_and, and_true, false_implies, true_implies, not_false_eq_true, not_true_eq_false, q4]
            refine c_winT hC2 hk2 (sm (t 3) 512) 30 (t 3) _ (8 * x + y) _ (by omega) (by omega) (by omega) (by omega) (tok_nw hk2) oX (fun k hk5 hp5 => by rw [cpy0 hk5]; exact cR k hk5 hp5) (fun F' hF' => ?_)
            have fJ : fr [66] [] I (va_up I 66 F') := fr_up (fr_refl _ _ _) rfl
            have MJ := fr_MT fJ hM2 rfl
            have m1J := MJ.2.1
            have e2J := MJ.2.2.2.2.2.2.1 (8 * x + y) (by omega)
            have g8 := gw_8 (sm (t 3) 512) (t 3) (8 * x + y)
            have hm : ∀ Q2 : Int32 → (Nat → Nat → Int32) → Prop, (∀ K, fr SC FC I K → Q2 (nI (if gw (sm (t 3) 512) (t 3) (8 * x + y) = 8 then 0 else 1)) K) → C_X11_wins_73 e (nI x) (nI y) (va_up I 66 F') L Q2 := by
              intro Q2 hQ2
              refine b_X11_wins_73 ?_
              simp (disch := omega) only [pk_mul, nI_add, ksub, kdv, kd8, kd64, kd2, kd3, km8, km64, kt8, ke8, ke64, kcl, kin, kle, klt, keq, up_s, up_n, up_u, true_and, and_true, false_implies, true_implies, not_false_eq_true, not_true_eq_false, m1J, kzl, kcz, knl, q1, q2, e2J, gx, gy]
              refine c_asLeft (lf := t 3) MJ.2.2.2.2.2.2.2.2.1 (fun F2 hF2 => ?_)
              refine c_sumNow (nw := t 3) hF2 ?_
              simp (disch := omega) only [pk_mul, nI_add, ksub, kdv, kd8, kd64, kd2, kd3, km8, km64, kt8, ke8, ke64, kcl, kin, kle, klt, keq, up_s, up_n, up_u, true_and, and_true, false_implies, true_implies, not_false_eq_true, not_true_eq_false, q4]
              refine c_winsFrom (MT_0 MJ) hk2 (sm (t 3) 512) 30 (t 3) F2 x y _ (by omega) (by omega) (by omega) (tok_nw hk2) oX hF2 rfl (fun F3 hF3 => ?_)
              have fin := hQ2 _ (fr_q1 fJ (fr_up (S := [87]) (F := []) (a := 87) (f := F3) (fr_refl _ _ _) rfl) rfl rfl rfl rfl)
              by_cases hg : gw (sm (t 3) 512) (t 3) (8 * x + y) = 8
              · rw [if_pos hg] at fin ⊢
                exact ⟨fun _ => fin, fun h => absurd rfl h⟩
              · rw [if_neg hg] at fin ⊢
                exact ⟨fun h => absurd h (by decide), fun _ => fin⟩
            by_cases hg : gw (sm (t 3) 512) (t 3) (8 * x + y) = 8
            · rw [if_pos hg] at hm ⊢
              refine ⟨fun _ => ⟨fun _ => hm _ (fun K fK => hQ _ _ fK), fun h => absurd rfl h⟩, fun h => absurd (by decide) h⟩
            · rw [if_neg hg] at hm ⊢
              refine ⟨fun h => absurd h ?_, fun _ => hm _ (fun K fK => hQ _ _ fK)⟩
              rw [klt (by omega) (by decide)]
              omega
          · have q4 := eq_false hu
            simp (disch := omega) only [pk_mul, nI_add, ksub, kdv, kd8, kd64, kd2, kd3, km8, km64, kt8, ke8, ke64, kcl, kin, kle, klt, keq, up_s, up_n, up_u, true_and, and_true, false_implies, true_implies, not_false_eq_true, not_true_eq_false, q4]
            refine b_X11_wins_73 ?_
            simp (disch := omega) only [pk_mul, nI_add, ksub, kdv, kd8, kd64, kd2, kd3, km8, km64, kt8, ke8, ke64, kcl, kin, kle, klt, keq, up_s, up_n, up_u, true_and, and_true, false_implies, true_implies, not_false_eq_true, not_true_eq_false, m1, kzl, kcz, knl, q1, q2, e2, gx, gy]
            refine c_asLeft (lf := t 3) mL (fun F2 hF2 => ?_)
            refine c_sumNow (nw := t 3) hF2 ?_
            simp (disch := omega) only [pk_mul, nI_add, ksub, kdv, kd8, kd64, kd2, kd3, km8, km64, kt8, ke8, ke64, kcl, kin, kle, klt, keq, up_s, up_n, up_u, true_and, and_true, false_implies, true_implies, not_false_eq_true, not_true_eq_false, q4]
            exact hQ _ _ (fr_up f0 rfl)
theorem q_turn {e : am_V} {I : Nat → Nat → Int32} {L : Nat → Nat → Int64} {t : tw} {Q : Int32 → Int32 → (Nat → Nat → Int32) → Prop} {v1 : Int32} {v2 : Int32} (hC : CT t I) (hM : MT t I) (hk : tok t) (hQ : ∀ r J, fr SC FC I J → Q r r J) : C_X10_turn_0 e v1 v2 I L (fun r J => C_X11_turn_73 e v1 v2 J L (fun r' K => Q r r' K)) := by
  have hC2 := hC
  have hM2 := hM
  have hk2 := hk
  obtain ⟨c0, c1, c2, c3, c4, c5, c6, c7, c8, cS, cD, cN, cA, cT, cM, cR, cF, cO, cH, cL⟩ := hC
  obtain ⟨m0, m1, m2, m3, m4, m5, mS, mU, mL, mF, mO, mH, mA, mK⟩ := hM
  obtain ⟨o0, oT, oZ, oY, oD, o9, oN, o28, oB, oX, oE, oF, oA, oH, oU, oV⟩ := hk
  have f0 : fr SC FC I (va_up I 73 (va_up (I 73) 0 (nI 0))) := fr_73 (fr_refl _ _ _) rfl
  rcases crs v1 (t 0 0) (by omega) with ax | ⟨ax, dx⟩ | ⟨x, hx, rfl⟩
  · (refine b_X10_turn_0 ?_; simp (disch := omega) only [pk_mul, nI_add, ksub, kdv, kd8, kd64, kd2, kd3, km8, km64, kt8, ke8, ke64, kcl, kin, kle, klt, keq, up_s, up_n, up_u, true_and, and_true, false_implies, true_implies, not_false_eq_true, not_true_eq_false, ax, c0, knl]; refine b_X11_turn_73 ?_; simp (disch := omega) only [pk_mul, nI_add, ksub, kdv, kd8, kd64, kd2, kd3, km8, km64, kt8, ke8, ke64, kcl, kin, kle, klt, keq, up_s, up_n, up_u, true_and, and_true, false_implies, true_implies, not_false_eq_true, not_true_eq_false, ax, m1, kzl, kcz, knl]; exact hQ _ _ f0)
  · (refine b_X10_turn_0 ?_; simp (disch := omega) only [pk_mul, nI_add, ksub, kdv, kd8, kd64, kd2, kd3, km8, km64, kt8, ke8, ke64, kcl, kin, kle, klt, keq, up_s, up_n, up_u, true_and, and_true, false_implies, true_implies, not_false_eq_true, not_true_eq_false, ax, dx, c0, knl]; refine b_X11_turn_73 ?_; simp (disch := omega) only [pk_mul, nI_add, ksub, kdv, kd8, kd64, kd2, kd3, km8, km64, kt8, ke8, ke64, kcl, kin, kle, klt, keq, up_s, up_n, up_u, true_and, and_true, false_implies, true_implies, not_false_eq_true, not_true_eq_false, ax, dx, m1, kzl, kcz, knl]; exact hQ _ _ f0)
  · have gx : (t 0 0 ≤ x) = False := eq_false (by omega)
    rcases crs v2 (t 0 0) (by omega) with ay | ⟨ay, dy⟩ | ⟨y, hy, rfl⟩
    · (refine b_X10_turn_0 ?_; simp (disch := omega) only [pk_mul, nI_add, ksub, kdv, kd8, kd64, kd2, kd3, km8, km64, kt8, ke8, ke64, kcl, kin, kle, klt, keq, up_s, up_n, up_u, true_and, and_true, false_implies, true_implies, not_false_eq_true, not_true_eq_false, gx, ay, c0, knl]; refine b_X11_turn_73 ?_; simp (disch := omega) only [pk_mul, nI_add, ksub, kdv, kd8, kd64, kd2, kd3, km8, km64, kt8, ke8, ke64, kcl, kin, kle, klt, keq, up_s, up_n, up_u, true_and, and_true, false_implies, true_implies, not_false_eq_true, not_true_eq_false, gx, ay, m1, kzl, kcz, knl]; exact hQ _ _ f0)
    · (refine b_X10_turn_0 ?_; simp (disch := omega) only [pk_mul, nI_add, ksub, kdv, kd8, kd64, kd2, kd3, km8, km64, kt8, ke8, ke64, kcl, kin, kle, klt, keq, up_s, up_n, up_u, true_and, and_true, false_implies, true_implies, not_false_eq_true, not_true_eq_false, gx, ay, dy, c0, knl]; refine b_X11_turn_73 ?_; simp (disch := omega) only [pk_mul, nI_add, ksub, kdv, kd8, kd64, kd2, kd3, km8, km64, kt8, ke8, ke64, kcl, kin, kle, klt, keq, up_s, up_n, up_u, true_and, and_true, false_implies, true_implies, not_false_eq_true, not_true_eq_false, gx, ay, dy, m1, kzl, kcz, knl]; exact hQ _ _ f0)
    · have gy : (t 0 0 ≤ y) = False := eq_false (by omega)
      have e1 := cS (8 * x + y) (by omega)
      have e2 := mS (8 * x + y) (by omega)
      have u1 := o9 (8 * x + y) (by omega)
      by_cases hxy : x = y
      · have q1 : (x = y) = True := eq_true hxy
        refine b_X10_turn_0 ?_
        simp (disch := omega) only [pk_mul, nI_add, ksub, kdv, kd8, kd64, kd2, kd3, km8, km64, kt8, ke8, ke64, kcl, kin, kle, klt, keq, up_s, up_n, up_u, true_and, and_true, false_implies, true_implies, not_false_eq_true, not_true_eq_false, c0, knl, q1, gx, gy]
        refine b_X11_turn_73 ?_
        simp (disch := omega) only [pk_mul, nI_add, ksub, kdv, kd8, kd64, kd2, kd3, km8, km64, kt8, ke8, ke64, kcl, kin, kle, klt, keq, up_s, up_n, up_u, true_and, and_true, false_implies, true_implies, not_false_eq_true, not_true_eq_false, m1, kzl, kcz, knl, q1, gx, gy]
        exact hQ _ _ f0
      · have q1 : (x = y) = False := eq_false hxy
        by_cases h1 : t 1 (8 * x + y) ≤ 0
        · have q2 := eq_true h1
          have q3 : (t 1 (8 * x + y) = 0) = True := eq_true (by omega)
          refine b_X10_turn_0 ?_
          simp (disch := omega) only [pk_mul, nI_add, ksub, kdv, kd8, kd64, kd2, kd3, km8, km64, kt8, ke8, ke64, kcl, kin, kle, klt, keq, up_s, up_n, up_u, true_and, and_true, false_implies, true_implies, not_false_eq_true, not_true_eq_false, c0, knl, q1, q3, e1, gx, gy]
          refine b_X11_turn_73 ?_
          simp (disch := omega) only [pk_mul, nI_add, ksub, kdv, kd8, kd64, kd2, kd3, km8, km64, kt8, ke8, ke64, kcl, kin, kle, klt, keq, up_s, up_n, up_u, true_and, and_true, false_implies, true_implies, not_false_eq_true, not_true_eq_false, m1, kzl, kcz, knl, q1, q2, e2, gx, gy]
          exact hQ _ _ f0
        · have q2 := eq_false h1
          have q3 : (t 1 (8 * x + y) = 0) = False := eq_false (by omega)
          have hsb : sm (t 3) 512 ≤ 512 * 9 := sm_bd (fun k hk => (oB k hk).2)
          refine b_X10_turn_0 ?_
          simp (disch := omega) only [pk_mul, nI_add, ksub, kdv, kd8, kd64, kd2, kd3, km8, km64, kt8, ke8, ke64, kcl, kin, kle, klt, keq, up_s, up_n, up_u, true_and, and_true, false_implies, true_implies, not_false_eq_true, not_true_eq_false, c0, knl, q1, q3, e1, gx, gy]
          refine c_sum_10 hC2 cR oX ?_
          by_cases hu : sm (t 3) 512 ≤ 12
          · have q4 := eq_true hu
            simp (disch := omega) only [pk_mul, nI_add, ksub, kdv, kd8, kd64, kd2, kd3, km8, km64, kt8, ke8, ke64, kcl, kin, kle, klt, keq, up_s, up_n, up_u, true_and, and_true, false_implies, true_implies, not_false_eq_true, not_true_eq_false, q4]
            refine c_winT hC2 hk2 (sm (t 3) 512) 30 (t 3) _ (8 * x + y) _ (by omega) (by omega) (by omega) (by omega) (tok_nw hk2) oX (fun k hk5 hp5 => by rw [cpy0 hk5]; exact cR k hk5 hp5) (fun F' hF' => ?_)
            have fJ : fr [66] [] I (va_up I 66 F') := fr_up (fr_refl _ _ _) rfl
            have MJ := fr_MT fJ hM2 rfl
            have m1J := MJ.2.1
            have e2J := MJ.2.2.2.2.2.2.1 (8 * x + y) (by omega)
            have g8 := gw_8 (sm (t 3) 512) (t 3) (8 * x + y)
            have hm : ∀ Q2 : Int32 → (Nat → Nat → Int32) → Prop, (∀ K, fr SC FC I K → Q2 (if gw (sm (t 3) 512) (t 3) (8 * x + y) = 8 then (-1 : Int32) else nI (gw (sm (t 3) 512) (t 3) (8 * x + y))) K) → C_X11_turn_73 e (nI x) (nI y) (va_up I 66 F') L Q2 := by
              intro Q2 hQ2
              refine b_X11_turn_73 ?_
              simp (disch := omega) only [pk_mul, nI_add, ksub, kdv, kd8, kd64, kd2, kd3, km8, km64, kt8, ke8, ke64, kcl, kin, kle, klt, keq, up_s, up_n, up_u, true_and, and_true, false_implies, true_implies, not_false_eq_true, not_true_eq_false, m1J, kzl, kcz, knl, q1, q2, e2J, gx, gy]
              refine c_asLeft (lf := t 3) MJ.2.2.2.2.2.2.2.2.1 (fun F2 hF2 => ?_)
              refine c_sumNow (nw := t 3) hF2 ?_
              simp (disch := omega) only [pk_mul, nI_add, ksub, kdv, kd8, kd64, kd2, kd3, km8, km64, kt8, ke8, ke64, kcl, kin, kle, klt, keq, up_s, up_n, up_u, true_and, and_true, false_implies, true_implies, not_false_eq_true, not_true_eq_false, q4]
              generalize hJ0 : va_up (va_up I 66 F') 73 (va_up (I 73) 0 (nI 0)) = J0
              have MJ0 : MT t J0 := by rw [← hJ0]; exact MT_0 MJ
              have m1K := MJ0.2.1
              have fin : ∀ F3, Q2 (if gw (sm (t 3) 512) (t 3) (8 * x + y) = 8 then (-1 : Int32) else nI (gw (sm (t 3) 512) (t 3) (8 * x + y))) (va_up J0 87 F3) := by
                intro F3
                rw [← hJ0]
                exact hQ2 _ (fr_q1 fJ (fr_up (S := [87]) (F := []) (a := 87) (f := F3) (fr_refl _ _ _) rfl) rfl rfl rfl rfl)
              have hk0 : ∀ z, 8 * (8 * x + y) + z = 64 * x + 8 * y + z := fun z => by omega
              have hk1 : (8 * x + y) % 8 = y := by omega
              generalize hU : sm (t 3) 512 = U at fin hu
              cases U with
              | zero =>
                refine lp_up (n := t 0 0) (S := Unit) (T := fun z _ => T_X11_turn_73_p21 e (nI x) (nI y) (nI z) (va_up J0 87 F2) L Q2) (fun _ _ => True) ?_ ?_ 0 () (Nat.zero_le _) trivial
                · intro z _ hz8 _ hnext
                  have q1 : (t 0 0 ≤ z) = False := eq_false (by omega)
                  have e9 := hF2 (64 * x + 8 * y + z) (by omega)
                  have h0 := sm_ge (f := t 3) (n := 512) (k := 64 * x + 8 * y + z) (by omega)
                  have q2 : (t 3 (64 * x + 8 * y + z) ≤ 0) = True := eq_true (by omega)
                  refine b_X11_turn_73_p21 ?_
                  simp (disch := omega) only [pk_mul, nI_add, ksub, kdv, kd8, kd64, kd2, kd3, km8, km64, kt8, ke8, ke64, kcl, kin, kle, klt, keq, up_s, up_n, up_u, true_and, and_true, false_implies, true_implies, not_false_eq_true, not_true_eq_false, m1K, q1, e9, q2]
                  exact hnext () trivial
                · intro _ _
                  have q1 : (t 0 0 ≤ t 0 0) = True := eq_true (Nat.le_refl _)
                  refine b_X11_turn_73_p21 ?_
                  simp (disch := omega) only [pk_mul, nI_add, ksub, kdv, kd8, kd64, kd2, kd3, km8, km64, kt8, ke8, ke64, kcl, kin, kle, klt, keq, up_s, up_n, up_u, true_and, and_true, false_implies, true_implies, not_false_eq_true, not_true_eq_false, m1K, q1]
                  have h1 := fin F2
                  rw [if_pos (show gw 0 (t 3) (8 * x + y) = 8 from rfl)] at h1
                  exact h1
              | succ u =>
                rw [gw_s] at fin
                refine lp_ux (n := t 0 0) (N := 8) (S := Nat → Int32) (T := fun z F => T_X11_turn_73_p21 e (nI x) (nI y) (nI z) (va_up J0 87 F) L Q2) (fun z F => (∀ k, k < 512 → F k = nI (t 3 k)) ∧ ∀ z', z' < z → gwp u (t 3) (8 * x + y) z' = false) o0 ?_ ?_ ?_ F2 ⟨hF2, fun z' h => absurd h (Nat.not_lt_zero _)⟩
                · rintro z F hz1 hz2 ⟨i1, i2⟩
                  refine ⟨i1, fun z' hz' => ?_⟩
                  by_cases he : z' = z
                  · rw [he]
                    unfold gwp
                    have h9 : t 3 (64 * x + 8 * y + z) = 0 := by
                      refine oX _ (by omega) ?_
                      cases hp2 : tB t (64 * x + 8 * y + z) with
                      | false => rfl
                      | true =>
                        have h5 := (tB_i.mp hp2).2
                        have h6 := oN y (by omega) z hz2 (by rw [show 8 * y + z = (64 * x + 8 * y + z) % 64 from by omega]; exact h5)
                        omega
                    rw [hk0, h9]
                    rfl
                  · exact i2 z' (by omega)
                · rintro z F hz8 ⟨i1, i2⟩ hnext
                  have q1 : (t 0 0 ≤ z) = False := eq_false (by omega)
                  have e9 := i1 (64 * x + 8 * y + z) (by omega)
                  have bd := tok_nw hk2 (64 * x + 8 * y + z) (by omega)
                  refine b_X11_turn_73_p21 ?_
                  simp (disch := omega) only [pk_mul, nI_add, ksub, kdv, kd8, kd64, kd2, kd3, km8, km64, kt8, ke8, ke64, kcl, kin, kle, klt, keq, up_s, up_n, up_u, true_and, and_true, false_implies, true_implies, not_false_eq_true, not_true_eq_false, m1K, q1, e9]
                  refine ⟨fun h0 => hnext F ⟨i1, fun z' hz' => ?_⟩, fun h0 => ?_⟩
                  · by_cases he : z' = z
                    · rw [he]
                      unfold gwp
                      rw [hk0, decide_eq_false (by omega)]
                      rfl
                    · exact i2 z' (by omega)
                  · refine c_winsBy0 (t := t) u (fun d nw F x y Q h1 h2 h3 h4 h5 h6 h7 h8 => c_winsFrom MJ0 hk2 u d nw F x y Q h1 h2 h3 h4 h5 h6 h7 h8) (by omega) (by omega) (by omega) (by omega) (tok_nw hk2) oX i1 hU (by omega) (fun F3 hF3 => ?_)
                    by_cases hg : gw u (va_up (t 3) (64 * x + 8 * y + z) (t 3 (64 * x + 8 * y + z) - 1)) (8 * y + z) = 8
                    · have hpz : gwp u (t 3) (8 * x + y) z = true := by
                        unfold gwp
                        rw [hk0, hk1, decide_eq_true (show 0 < t 3 (64 * x + 8 * y + z) from by omega), decide_eq_true hg]
                        rfl
                      have hff : ff (gwp u (t 3) (8 * x + y)) 8 = z := ff_eq (by omega) hpz i2
                      rw [hff, if_neg (by omega)] at fin
                      rw [if_pos hg]
                      exact ⟨fun h => absurd h (by decide), fun _ => fin F3⟩
                    · rw [if_neg hg]
                      refine ⟨fun _ => hnext F3 ⟨hF3, fun z' hz' => ?_⟩, fun h => absurd rfl h⟩
                      by_cases he : z' = z
                      · rw [he]
                        unfold gwp
                        rw [hk0, hk1, decide_eq_false hg, Bool.and_false]
                      · exact i2 z' (by omega)
                · rintro F ⟨i1, i2⟩
                  have q1 : (t 0 0 ≤ t 0 0) = True := eq_true (Nat.le_refl _)
                  refine b_X11_turn_73_p21 ?_
                  simp (disch := omega) only [pk_mul, nI_add, ksub, kdv, kd8, kd64, kd2, kd3, km8, km64, kt8, ke8, ke64, kcl, kin, kle, klt, keq, up_s, up_n, up_u, true_and, and_true, false_implies, true_implies, not_false_eq_true, not_true_eq_false, m1K, q1]
                  have hff : ff (gwp u (t 3) (8 * x + y)) 8 = 8 := ff_no i2
                  rw [hff, if_pos rfl] at fin
                  exact fin F
            by_cases hg : gw (sm (t 3) 512) (t 3) (8 * x + y) = 8
            · rw [if_pos hg] at hm ⊢
              exact ⟨fun _ => hm _ (fun K fK => hQ _ _ fK), fun h => absurd rfl h⟩
            · rw [if_neg hg] at hm ⊢
              obtain ⟨y1, y2⟩ := km101 (n := gw (sm (t 3) 512) (t 3) (8 * x + y)) (by omega)
              rw [y1, y2]
              exact ⟨fun h => h.elim, fun _ => ⟨fun h => h.elim, fun _ => hm _ (fun K fK => hQ _ _ fK)⟩⟩
          · have q4 := eq_false hu
            simp (disch := omega) only [pk_mul, nI_add, ksub, kdv, kd8, kd64, kd2, kd3, km8, km64, kt8, ke8, ke64, kcl, kin, kle, klt, keq, up_s, up_n, up_u, true_and, and_true, false_implies, true_implies, not_false_eq_true, not_true_eq_false, q4]
            refine b_X11_turn_73 ?_
            simp (disch := omega) only [pk_mul, nI_add, ksub, kdv, kd8, kd64, kd2, kd3, km8, km64, kt8, ke8, ke64, kcl, kin, kle, klt, keq, up_s, up_n, up_u, true_and, and_true, false_implies, true_implies, not_false_eq_true, not_true_eq_false, m1, kzl, kcz, knl, q1, q2, e2, gx, gy]
            refine c_asLeft (lf := t 3) mL (fun F2 hF2 => ?_)
            refine c_sumNow (nw := t 3) hF2 ?_
            simp (disch := omega) only [pk_mul, nI_add, ksub, kdv, kd8, kd64, kd2, kd3, km8, km64, kt8, ke8, ke64, kcl, kin, kle, klt, keq, up_s, up_n, up_u, true_and, and_true, false_implies, true_implies, not_false_eq_true, not_true_eq_false, q4]
            exact hQ _ _ (fr_up f0 rfl)
