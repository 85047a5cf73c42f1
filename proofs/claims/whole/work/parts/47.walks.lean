/-! walks: all of them, told by where they end and what they passed -/
def wkL : Nat → (Nat → Nat) → Nat → Nat → List (Nat × Nat)
  | 0, _, a, p => [(a % 8, p)]
  | n + 1, nw, a, p => acc (fun z l => l ++ (if 0 < nw (8 * a + z) then wkL n (va_up nw (8 * a + z) (nw (8 * a + z) - 1)) (8 * (a % 8) + z) (p ||| 2 ^ z) else [])) [] 8
def wkP (n : Nat) (nw : Nat → Nat) (a p : Nat) : Nat → List (Nat × Nat) := acc (fun z l => l ++ (if 0 < nw (8 * a + z) then wkL n (va_up nw (8 * a + z) (nw (8 * a + z) - 1)) (8 * (a % 8) + z) (p ||| 2 ^ z) else [])) []
theorem wkL_s (n : Nat) (nw : Nat → Nat) (a p : Nat) : wkL (n + 1) nw a p = wkP n nw a p 8 := rfl
theorem wkP_s (n : Nat) (nw : Nat → Nat) (a p z : Nat) : wkP n nw a p (z + 1) = wkP n nw a p z ++ (if 0 < nw (8 * a + z) then wkL n (va_up nw (8 * a + z) (nw (8 * a + z) - 1)) (8 * (a % 8) + z) (p ||| 2 ^ z) else []) := rfl
/-- all walks of n streets from x -/
def wk0 (st : Nat → Nat) (n : Nat) (nw : Nat → Nat) (x : Nat) : Nat → List (Nat × Nat) := acc (fun z l => l ++ (if 0 < st (8 * x + z) then wkL n nw (8 * x + z) (2 ^ x ||| 2 ^ z) else [])) []
theorem wk0_s (st : Nat → Nat) (n : Nat) (nw : Nat → Nat) (x z : Nat) : wk0 st n nw x (z + 1) = wk0 st n nw x z ++ (if 0 < st (8 * x + z) then wkL n nw (8 * x + z) (2 ^ x ||| 2 ^ z) else []) := rfl
def wkA (st : Nat → Nat) (n : Nat) (nw : Nat → Nat) (x : Nat) : List (Nat × Nat) := match n with
  | 0 => [(x, 2 ^ x)]
  | n + 1 => wk0 st n nw x 8
theorem or_256 {p z : Nat} (hp : p < 256) (hz : z < 8) : p ||| 2 ^ z < 256 := Nat.or_lt_two_pow (n := 8) hp (Nat.pow_lt_pow_right (by decide) hz)
theorem wkL_m : ∀ (n : Nat) (nw : Nat → Nat) (a p : Nat), p < 256 → (∀ q, q ∈ wkL n nw a p → q.1 < 8 ∧ q.2 < 256) ∧ (wkL n nw a p).length ≤ 8 ^ n := by
  intro n
  induction n with
  | zero =>
    intro nw a p hp
    refine ⟨fun q hq => ?_, Nat.le_refl _⟩
    have : q = (a % 8, p) := List.mem_singleton.mp hq
    rw [this]
    exact ⟨by show a % 8 < 8; omega, hp⟩
  | succ n ih =>
    intro nw a p hp
    rw [wkL_s]
    have key : ∀ z, z ≤ 8 → (∀ q, q ∈ wkP n nw a p z → q.1 < 8 ∧ q.2 < 256) ∧ (wkP n nw a p z).length ≤ z * 8 ^ n := by
      intro z
      induction z with
      | zero => intro _; exact ⟨(fun q hq => by cases hq), by show 0 ≤ _; omega⟩
      | succ z ih2 =>
        intro hz
        obtain ⟨h1, h2⟩ := ih2 (by omega)
        rw [wkP_s]
        by_cases h0 : 0 < nw (8 * a + z)
        · rw [if_pos h0]
          obtain ⟨h3, h4⟩ := ih (va_up nw (8 * a + z) (nw (8 * a + z) - 1)) (8 * (a % 8) + z) (p ||| 2 ^ z) (or_256 hp (by omega))
          refine ⟨fun q hq => ?_, ?_⟩
          · rcases List.mem_append.mp hq with h | h
            · exact h1 q h
            · exact h3 q h
          · rw [List.length_append, Nat.add_mul]
            omega
        · rw [if_neg h0, List.append_nil]
          refine ⟨h1, ?_⟩
          rw [Nat.add_mul]
          omega
    obtain ⟨h1, h2⟩ := key 8 (Nat.le_refl _)
    refine ⟨h1, ?_⟩
    rw [Nat.pow_succ, Nat.mul_comm]
    exact h2
theorem wkA_m (st : Nat → Nat) (n : Nat) (nw : Nat → Nat) (x : Nat) (hn : n ≤ 9) (hx : x < 8) : (∀ q, q ∈ wkA st n nw x → q.1 < 8 ∧ q.2 < 256) ∧ (wkA st n nw x).length ≤ 134217728 := by
  have hx2 : 2 ^ x < 2 ^ 8 := Nat.pow_lt_pow_right (by decide) hx
  cases n with
  | zero =>
    refine ⟨fun q hq => ?_, by show 1 ≤ _; omega⟩
    have : q = (x, 2 ^ x) := List.mem_singleton.mp hq
    rw [this]
    exact ⟨hx, hx2⟩
  | succ n =>
    have key : ∀ z, z ≤ 8 → (∀ q, q ∈ wk0 st n nw x z → q.1 < 8 ∧ q.2 < 256) ∧ (wk0 st n nw x z).length ≤ z * 8 ^ n := by
      intro z
      induction z with
      | zero => intro _; exact ⟨(fun q hq => by cases hq), by show 0 ≤ _; omega⟩
      | succ z ih2 =>
        intro hz
        obtain ⟨h1, h2⟩ := ih2 (by omega)
        rw [wk0_s]
        by_cases h0 : 0 < st (8 * x + z)
        · rw [if_pos h0]
          obtain ⟨h3, h4⟩ := wkL_m n nw (8 * x + z) (2 ^ x ||| 2 ^ z) (or_256 hx2 (by omega))
          refine ⟨fun q hq => ?_, ?_⟩
          · rcases List.mem_append.mp hq with h | h
            · exact h1 q h
            · exact h3 q h
          · rw [List.length_append, Nat.add_mul]
            omega
        · rw [if_neg h0, List.append_nil]
          refine ⟨h1, ?_⟩
          rw [Nat.add_mul]
          omega
    obtain ⟨h1, h2⟩ := key 8 (Nat.le_refl _)
    refine ⟨h1, Nat.le_trans h2 ?_⟩
    have : 8 ^ n ≤ 8 ^ 8 := Nat.pow_le_pow_right (by decide) (by omega)
    rw [show (8 : Nat) ^ 8 = 16777216 from rfl] at this
    omega
/-- those that end at y -/
def wq (l : List (Nat × Nat)) (y : Nat) : List (Nat × Nat) := l.filter (fun q => q.1 == y)
def comv (c : Int32) (l : List (Nat × Nat)) : Int32 := l.foldl (fun c q => c &&& nI q.2) c
def enr (c : Int32) (l : List (Nat × Nat)) : Int32 := l.foldl (fun c q => c ||| nI (2 ^ q.1)) c
theorem wq_a (l1 l2 : List (Nat × Nat)) (y : Nat) : wq (l1 ++ l2) y = wq l1 y ++ wq l2 y := List.filter_append ..
theorem comv_a (c : Int32) (l1 l2 : List (Nat × Nat)) : comv c (l1 ++ l2) = comv (comv c l1) l2 := List.foldl_append ..
theorem enr_a (c : Int32) (l1 l2 : List (Nat × Nat)) : enr c (l1 ++ l2) = enr (enr c l1) l2 := List.foldl_append ..
theorem i_as (x : Int32) (a b : Nat) : x + nI a + nI b = x + nI (a + b) := by rw [Int32.add_assoc, nI_add]
/-- what walks did to the tallies -/
def wkT (l : List (Nat × Nat)) (J J' : Nat → Nat → Int32) : Prop := (∀ y, y < 8 → J' 63 y = J 63 y + nI (wq l y).length) ∧ (∀ y, y < 8 → J' 64 y = comv (J 64 y) (wq l y))
theorem wkT_0 (J : Nat → Nat → Int32) : wkT [] J J := ⟨fun y _ => (Int32.add_zero _).symm, fun y _ => rfl⟩
theorem wkT_t {l1 l2 : List (Nat × Nat)} {J J1 J2 : Nat → Nat → Int32} (h1 : wkT l1 J J1) (h2 : wkT l2 J1 J2) : wkT (l1 ++ l2) J J2 := by
  refine ⟨fun y hy => ?_, fun y hy => ?_⟩
  · rw [h2.1 y hy, h1.1 y hy, wq_a, List.length_append, i_as]
  · rw [h2.2 y hy, h1.2 y hy, wq_a, comv_a]
theorem wkT_c {l : List (Nat × Nat)} {J J1 K K1 : Nat → Nat → Int32} (h : wkT l J J1) (a1 : K 63 = J 63) (a2 : K 64 = J 64) (b1 : K1 63 = J1 63) (b2 : K1 64 = J1 64) : wkT l K K1 := by
  unfold wkT at h ⊢
  rw [a1, a2, b1, b2]
  exact h
theorem wkT_1 {J : Nat → Nat → Int32} {b p : Nat} : wkT [(b, p)] J (va_up (va_up J 63 (va_up (J 63) b (J 63 b + nI 1))) 64 (va_up (J 64) b (J 64 b &&& nI p))) := by
  refine ⟨fun y hy => ?_, fun y hy => ?_⟩
  · show va_up (J 63) b (J 63 b + nI 1) y = _
    by_cases he : y = b
    · rw [he, up_s]
      unfold wq
      rw [List.filter_cons_of_pos (by simp)]
      rfl
    · rw [up_n he]
      unfold wq
      rw [List.filter_cons_of_neg (by simp; omega)]
      exact (Int32.add_zero _).symm
  · show va_up (J 64) b (J 64 b &&& nI p) y = _
    by_cases he : y = b
    · rw [he, up_s]
      unfold wq
      rw [List.filter_cons_of_pos (by simp)]
      rfl
    · rw [up_n he]
      unfold wq
      rw [List.filter_cons_of_neg (by simp; omega)]
      rfl
theorem c_walkOn {e : am_V} {L : Nat → Nat → Int64} {t : tw} (hk : tok t) : ∀ (n d : Nat) (nw : Nat → Nat) (J : Nat → Nat → Int32) (a p : Nat) (Q : (Nat → Nat → Int32) → Prop), n + 1 ≤ d → n ≤ 1000 → a < 64 → 0 < t 1 a → CT t J → (∀ k, k < 512 → nw k ≤ 1000) → (∀ k, k < 512 → tB t k = false → nw k = 0) → (∀ k, k < 512 → tB t k = true → J 2 k = nI (nw k)) → (∀ J', fr [2, 63, 64] [] J J' → (∀ k, k < 512 → tB t k = true → J' 2 k = nI (nw k)) → wkT (wkL n nw a p) J J' → Q J') → C_X8_walkOn_62_3_2 e d (nI a) (nI p) (nI n) J L Q := by
  obtain ⟨o0, oT, oZ, oY, oD, o9, oN, o28, oB, oX, oE, oF, oA, oH, oU, oV⟩ := hk
  have hln : ∀ y, (nb t y).length ≤ 8 := fun y => by rw [cn_fl]; exact cn_n _ _
  intro n
  induction n with
  | zero =>
    intro d nw J a p Q hd hn ha hs hC hb hz hF hQ
    obtain ⟨d', rfl⟩ : ∃ d', d = d' + 1 := ⟨d - 1, by omega⟩
    have q1 : (0 < 0) = False := eq_false (by omega)
    refine b_X8_walkOn_62_3_2 ?_
    simp (disch := omega) only [pk_mul, nI_add, ksub, kdv, kd8, kd64, kd2, kd3, km8, km64, kt8, ke8, ke64, kcl, kin, kle, klt, keq, up_s, up_n, up_u, true_and, and_true, false_implies, true_implies, not_false_eq_true, not_true_eq_false, q1]
    exact hQ _ (fr_up (fr_up (fr_refl _ _ _) rfl) rfl) hF wkT_1
  | succ n ih =>
    intro d nw J a p Q hd hn ha hs hC hb hz hF hQ
    obtain ⟨d', rfl⟩ : ∃ d', d = d' + 1 := ⟨d - 1, by omega⟩
    have q1 : (0 < n + 1) = True := eq_true (by omega)
    refine b_X8_walkOn_62_3_2 ?_
    simp (disch := omega) only [pk_mul, nI_add, ksub, kdv, kd8, kd64, kd2, kd3, km8, km64, kt8, ke8, ke64, kcl, kin, kle, klt, keq, up_s, up_n, up_u, true_and, and_true, false_implies, true_implies, not_false_eq_true, not_true_eq_false, q1]
    rw [wkL_s] at hQ
    have hlni := hln (a % 8)
    refine lp_fl (l := nb t (a % 8)) rfl (N := 8) (p := nbp t (a % 8)) (S := Nat → Nat → Int32) (T := fun i K => T_X8_walkOn_62_3_2_p23 e (d' + 1) (nI a) (nI p) (nI (n + 1)) (nI (a % 8)) (nI i) K L Q) (fun z K => fr [2, 63, 64] [] J K ∧ (∀ k, k < 512 → tB t k = true → K 2 k = nI (nw k)) ∧ wkT (wkP n nw a p z) J K) ?_ ?_ ?_ J ⟨fr_refl _ _ _, hF, wkT_0 J⟩
    · rintro z K hz8 hp ⟨i1, i2, i3⟩
      have hnt : tB t (8 * a + z) = false := by
        cases hp2 : tB t (8 * a + z) with
        | false => rfl
        | true =>
          have h5 := (tB_i.mp hp2).2
          rw [show (8 * a + z) % 64 = 8 * (a % 8) + z from by omega] at h5
          unfold nbp at hp
          rw [decide_eq_true h5] at hp
          cases hp
      refine ⟨i1, i2, ?_⟩
      rw [wkP_s, if_neg (by have := hz _ (by omega) hnt; omega), List.append_nil]
      exact i3
    · rintro z i K hz8 hp hi hiz ⟨i1, i2, i3⟩ hnext
      rw [wkP_s] at hnext
      have CK := fr_CT i1 hC rfl
      have hsz : 0 < t 1 (8 * (a % 8) + z) := by unfold nbp at hp; simpa using hp
      have g1 : ((nb t (a % 8)).length ≤ i) = False := eq_false (by omega)
      have e5 := CK.2.2.2.2.2.2.2.2.2.2.1 (a % 8) (by omega)
      have e6 := CK.2.2.2.2.2.2.2.2.2.2.2.1 (a % 8) (by omega) i hi
      rw [hiz] at e6
      have hT : tB t (8 * a + z) = true := by
        rw [tB_i, show (8 * a + z) / 8 = a from by omega, show (8 * a + z) % 64 = 8 * (a % 8) + z from by omega]
        exact ⟨hs, hsz⟩
      have er := i2 (8 * a + z) (by omega) hT
      have bd := hb (8 * a + z) (by omega)
      have q4 : (8 * a + z) % 64 = 8 * (a % 8) + z := by omega
      have sh := ksh z (by omega)
      refine b_X8_walkOn_62_3_2_p23 ?_
      simp (disch := omega) only [pk_mul, nI_add, ksub, kdv, kd8, kd64, kd2, kd3, km8, km64, kt8, ke8, ke64, kcl, kin, kle, klt, keq, up_s, up_n, up_u, true_and, and_true, false_implies, true_implies, not_false_eq_true, not_true_eq_false, e5, e6, g1, er, q4, sh, fa_or]
      refine ⟨fun h0 => hnext K ⟨i1, i2, ?_⟩, fun h0 => ?_⟩
      · rw [if_neg (by omega), List.append_nil]
        exact i3
      · have h01 : 1 ≤ nw (8 * a + z) := by omega
        have q5 : n + 1 - 1 = n := by omega
        rw [if_pos (by omega)] at hnext
        simp (disch := omega) only [pk_mul, nI_add, ksub, kdv, kd8, kd64, kd2, kd3, km8, km64, kt8, ke8, ke64, kcl, kin, kle, klt, keq, up_s, up_n, up_u, true_and, and_true, false_implies, true_implies, not_false_eq_true, not_true_eq_false, q5]
        have fK2 : fr [2, 63, 64] [] J (va_up K 2 (va_up (K 2) (8 * a + z) (nI (nw (8 * a + z) - 1)))) := fr_up i1 rfl
        refine ih d' (va_up nw (8 * a + z) (nw (8 * a + z) - 1)) _ (8 * (a % 8) + z) (p ||| 2 ^ z) _ (by omega) (by omega) (by omega) hsz (fr_CT fK2 hC rfl) (fun k hk5 => ?_) (fun k hk5 hp5 => ?_) (fun k hk5 hp5 => ?_) (fun K3 fK3 h3 hT3 => ?_)
        · by_cases he : k = 8 * a + z
          · rw [he, up_s]; omega
          · rw [up_n he]; exact hb k hk5
        · by_cases he : k = 8 * a + z
          · rw [he] at hp5; rw [hT] at hp5; cases hp5
          · rw [up_n he]; exact hz k hk5 hp5
        · show va_up (K 2) (8 * a + z) (nI (nw (8 * a + z) - 1)) k = _
          by_cases he : k = 8 * a + z
          · rw [he, up_s, up_s]
          · rw [up_n he, up_n he]; exact i2 k hk5 hp5
        · have e2 := h3 (8 * a + z) (by omega) hT
          rw [up_s] at e2
          have q6 : nw (8 * a + z) - 1 + 1 = nw (8 * a + z) := by omega
          simp (disch := omega) only [pk_mul, nI_add, ksub, kdv, kd8, kd64, kd2, kd3, km8, km64, kt8, ke8, ke64, kcl, kin, kle, klt, keq, up_s, up_n, up_u, true_and, and_true, false_implies, true_implies, not_false_eq_true, not_true_eq_false, e2, q6]
          refine hnext _ ⟨fr_up (fr_trans fK2 fK3) rfl, fun k hk5 hp5 => ?_, ?_⟩
          · show va_up (K3 2) (8 * a + z) (nI (nw (8 * a + z))) k = _
            by_cases he : k = 8 * a + z
            · rw [he, up_s]
            · rw [up_n he, h3 k hk5 hp5, up_n he]
          · exact wkT_t i3 (wkT_c hT3 rfl rfl rfl rfl)
    · rintro K ⟨i1, i2, i3⟩
      have CK := fr_CT i1 hC rfl
      have e5 := CK.2.2.2.2.2.2.2.2.2.2.1 (a % 8) (by omega)
      have g1 : ((nb t (a % 8)).length ≤ (nb t (a % 8)).length) = True := eq_true (Nat.le_refl _)
      refine b_X8_walkOn_62_3_2_p23 ?_
      simp (disch := omega) only [pk_mul, nI_add, ksub, kdv, kd8, kd64, kd2, kd3, km8, km64, kt8, ke8, ke64, kcl, kin, kle, klt, keq, up_s, up_n, up_u, true_and, and_true, false_implies, true_implies, not_false_eq_true, not_true_eq_false, e5, g1]
      exact hQ K i1 i2 i3
theorem c_walkAll {e : am_V} {I : Nat → Nat → Int32} {L : Nat → Nat → Int64} {Q : (Nat → Nat → Int32) → Prop} {t : tw} {nw : Nat → Nat} {x n : Nat} (hC : CT t I) (hk : tok t) (hx : x < 8) (hn : n ≤ 9) (hb : ∀ k, k < 512 → nw k ≤ 1000) (hz : ∀ k, k < 512 → tB t k = false → nw k = 0) (hF : ∀ k, k < 512 → tB t k = true → I 2 k = nI (nw k)) (hQ : ∀ J, fr [2, 63, 64] [] I J → (∀ y, y < 8 → J 63 y = nI (wq (wkA (t 1) n nw x) y).length) → (∀ y, y < 8 → J 64 y = comv (-1 : Int32) (wq (wkA (t 1) n nw x) y)) → Q J) : C_X8_walkAll_62_3_2 e (nI x) (nI n) I L Q := by
  have hln : (nb t x).length ≤ 8 := by rw [cn_fl]; exact cn_n _ _
  refine b_X8_walkAll_62_3_2 (c_fill_63 (fun F1 h1 => c_fill_64 (fun F2 h2 => ?_)))
  generalize hJ0 : va_up (va_up I 63 F1) 64 F2 = J0
  have f0 : fr [2, 63, 64] [] I J0 := by rw [← hJ0]; exact fr_up (fr_up (fr_refl _ _ _) rfl) rfl
  have j63 : ∀ y, y < 8 → J0 63 y = nI 0 := fun y hy => by rw [← hJ0]; exact h1 y hy
  have j64 : ∀ y, y < 8 → J0 64 y = (-1 : Int32) := fun y hy => by rw [← hJ0]; exact h2 y hy
  have j2 : ∀ k, k < 512 → tB t k = true → J0 2 k = nI (nw k) := fun k hk5 hp => by rw [f0.1 |> fun _ => show J0 2 = I 2 from by rw [← hJ0]; rfl]; exact hF k hk5 hp
  have hfin : ∀ J, fr [2, 63, 64] [] J0 J → wkT (wkA (t 1) n nw x) J0 J → Q J := by
    intro J fJ hT
    refine hQ J (fr_trans f0 fJ) (fun y hy => ?_) (fun y hy => ?_)
    · rw [hT.1 y hy, j63 y hy, nI_add, Nat.zero_add]
    · rw [hT.2 y hy, j64 y hy]
  have sh := ksh x hx
  cases n with
  | zero =>
    refine ⟨fun _ => ?_, fun h => absurd rfl h⟩
    simp (disch := omega) only [pk_mul, nI_add, ksub, kdv, kd8, kd64, kd2, kd3, km8, km64, kt8, ke8, ke64, kcl, kin, kle, klt, keq, up_s, up_n, up_u, true_and, and_true, false_implies, true_implies, not_false_eq_true, not_true_eq_false, sh]
    exact hfin _ (fr_up (fr_up (fr_refl _ _ _) rfl) rfl) wkT_1
  | succ n =>
    refine ⟨fun h => ?_, fun _ => ?_⟩
    · rw [keq (by omega) (by decide)] at h
      omega
    · refine lp_fl (l := nb t x) rfl (N := 8) (p := nbp t x) (S := Nat → Nat → Int32) (T := fun i K => T_X8_walkAll_62_3_2_p33 e (nI x) (nI (n + 1)) (nI i) K L Q) (fun z K => fr [2, 63, 64] [] J0 K ∧ (∀ k, k < 512 → tB t k = true → K 2 k = nI (nw k)) ∧ wkT (wk0 (t 1) n nw x z) J0 K) ?_ ?_ ?_ J0 ⟨fr_refl _ _ _, j2, wkT_0 J0⟩
      · rintro z K hz8 hp ⟨i1, i2, i3⟩
        refine ⟨i1, i2, ?_⟩
        rw [wk0_s, if_neg, List.append_nil]
        · exact i3
        · intro h
          unfold nbp at hp
          rw [decide_eq_true h] at hp
          cases hp
      · rintro z i K hz8 hp hi hiz ⟨i1, i2, i3⟩ hnext
        have CK := fr_CT (fr_trans f0 i1) hC rfl
        have hsz : 0 < t 1 (8 * x + z) := by unfold nbp at hp; simpa using hp
        rw [wk0_s, if_pos hsz] at hnext
        have g1 : ((nb t x).length ≤ i) = False := eq_false (by omega)
        have e5 := CK.2.2.2.2.2.2.2.2.2.2.1 x hx
        have e6 := CK.2.2.2.2.2.2.2.2.2.2.2.1 x hx i hi
        rw [hiz] at e6
        have sh2 := ksh z (by omega)
        have q5 : n + 1 - 1 = n := by omega
        refine b_X8_walkAll_62_3_2_p33 ?_
        simp (disch := omega) only [pk_mul, nI_add, ksub, kdv, kd8, kd64, kd2, kd3, km8, km64, kt8, ke8, ke64, kcl, kin, kle, klt, keq, up_s, up_n, up_u, true_and, and_true, false_implies, true_implies, not_false_eq_true, not_true_eq_false, e5, e6, g1, sh, sh2, fa_or, q5]
        refine c_walkOn hk n 30 nw K (8 * x + z) (2 ^ x ||| 2 ^ z) _ (by omega) (by omega) (by omega) hsz CK hb hz i2 (fun K3 fK3 h3 hT3 => ?_)
        exact hnext K3 ⟨fr_trans i1 fK3, h3, wkT_t i3 hT3⟩
      · rintro K ⟨i1, i2, i3⟩
        have CK := fr_CT (fr_trans f0 i1) hC rfl
        have e5 := CK.2.2.2.2.2.2.2.2.2.2.1 x hx
        have g1 : ((nb t x).length ≤ (nb t x).length) = True := eq_true (Nat.le_refl _)
        refine b_X8_walkAll_62_3_2_p33 ?_
        simp (disch := omega) only [pk_mul, nI_add, ksub, kdv, kd8, kd64, kd2, kd3, km8, km64, kt8, ke8, ke64, kcl, kin, kle, klt, keq, up_s, up_n, up_u, true_and, and_true, false_implies, true_implies, not_false_eq_true, not_true_eq_false, e5, g1]
        exact hfin K i1 i3
/-- the reference's tallies -/
def wkM (E : Int32) (l : List (Nat × Nat)) : List (Nat × Nat) := l.filter (fun q => decide (E = (-1 : Int32)) || decide (nI q.1 = E))
theorem wkM_a (E : Int32) (l1 l2 : List (Nat × Nat)) : wkM E (l1 ++ l2) = wkM E l1 ++ wkM E l2 := List.filter_append ..
def wkU (E : Int32) (l : List (Nat × Nat)) (J J' : Nat → Nat → Int32) : Prop := J' 73 41 = J 73 41 + nI (wkM E l).length ∧ J' 73 42 = comv (J 73 42) (wkM E l) ∧ J' 73 43 = enr (J 73 43) (wkM E l)
theorem wkU_0 (E : Int32) (J : Nat → Nat → Int32) : wkU E [] J J := ⟨(Int32.add_zero _).symm, rfl, rfl⟩
theorem wkU_t {E : Int32} {l1 l2 : List (Nat × Nat)} {J J1 J2 : Nat → Nat → Int32} (h1 : wkU E l1 J J1) (h2 : wkU E l2 J1 J2) : wkU E (l1 ++ l2) J J2 := by
  refine ⟨?_, ?_, ?_⟩
  · rw [h2.1, h1.1, wkM_a, List.length_append, i_as]
  · rw [h2.2.1, h1.2.1, wkM_a, comv_a]
  · rw [h2.2.2, h1.2.2, wkM_a, enr_a]
theorem wkU_c {E : Int32} {l : List (Nat × Nat)} {J J1 K K1 : Nat → Nat → Int32} (h : wkU E l J J1) (a1 : K 73 = J 73) (b1 : K1 73 = J1 73) : wkU E l K K1 := by
  unfold wkU at h ⊢
  rw [a1, b1]
  exact h
/-- crossings passed, as bits -/
def pw (w : Nat → Nat) : Nat → Nat := acc (fun k b => b ||| 2 ^ w k) 0
theorem pw_s (w : Nat → Nat) (k : Nat) : pw w (k + 1) = pw w k ||| 2 ^ w k := rfl
theorem pw_c {w w' : Nat → Nat} {n : Nat} (h : ∀ k, k < n → w k = w' k) : pw w n = pw w' n := acc_c (fun k x hk => by rw [h k hk])
/-- the walk is at its end -/
theorem c_wkEnd {e : am_V} {L : Nat → Nat → Int64} {d i : Nat} {w : Nat → Nat} {E : Int32} {J : Nat → Nat → Int32} {Q : (Nat → Nat → Int32) → Prop} (hi : i ≤ 9) (hw : ∀ k, k ≤ i → w k < 8 ∧ J 96 k = nI (w k)) (hE : J 73 40 = E) (hQ : ∀ J', fr [87, 96] [41, 42, 43] J J' → J' 87 = J 87 → J' 96 = J 96 → wkU E [(w i, pw w (i + 1))] J J' → Q J') : C_X11_walks_73 e (d + 1) (nI i) (nI i) J L Q := by
  obtain ⟨w8, e96⟩ := hw i (Nat.le_refl _)
  have qT : (i = i) = True := eq_true rfl
  have hrun : (E = (-1 : Int32) ∨ nI (w i) = E) → T_X11_walks_73_p32 e (d + 1) (nI i) (nI 0) (nI 0) J L Q := by
    intro hEE
    refine lp_up (n := i + 1) (S := Nat) (T := fun k b => T_X11_walks_73_p32 e (d + 1) (nI i) (nI b) (nI k) J L Q) (fun k b => b = pw w k) ?_ ?_ 0 0 (Nat.zero_le _) rfl
    · intro k b hk hb hnext
      obtain ⟨k8, k96⟩ := hw k (by omega)
      have q1 : (i < k) = False := eq_false (by omega)
      have sh := ksh (w k) k8
      refine b_X11_walks_73_p32 ?_
      simp (disch := omega) only [pk_mul, nI_add, ksub, kdv, kd8, kd64, kd2, kd3, km8, km64, kt8, ke8, ke64, kcl, kin, kle, klt, keq, up_s, up_n, up_u, true_and, and_true, false_implies, true_implies, not_false_eq_true, not_true_eq_false, q1, k96, sh, fa_or]
      refine hnext _ ?_
      rw [pw_s, hb]
    · intro b hb
      have q1 : (i < i + 1) = True := eq_true (by omega)
      have sh := ksh (w i) w8
      refine b_X11_walks_73_p32 ?_
      simp (disch := omega) only [pk_mul, nI_add, ksub, kdv, kd8, kd64, kd2, kd3, km8, km64, kt8, ke8, ke64, kcl, kin, kle, klt, keq, up_s, up_n, up_u, true_and, and_true, false_implies, true_implies, not_false_eq_true, not_true_eq_false, q1, e96, sh]
      have hM : wkM E [(w i, pw w (i + 1))] = [(w i, pw w (i + 1))] := by
        unfold wkM
        rw [List.filter_cons_of_pos]
        · rfl
        · rcases hEE with h | h
          · rw [decide_eq_true h]; rfl
          · show (decide (E = -1) || decide (nI (w i) = E)) = true
            rw [decide_eq_true h, Bool.or_true]
      have f1 := fr_73 (S := [87, 96]) (F := [41, 42, 43]) (k := 41) (v := J 73 41 + nI 1) (fr_refl _ _ J) rfl
      have f2 := fr_73 (k := 42) (v := J 73 42 &&& nI b) f1 rfl
      have f3 := fr_73 (k := 43) (v := J 73 43 ||| nI (2 ^ w i)) f2 rfl
      rw [up_u, up_u] at f3
      refine hQ _ f3 rfl rfl ?_
      refine ⟨?_, ?_, ?_⟩
      · rw [hM]; rfl
      · rw [hM, ← hb]; rfl
      · rw [hM]; rfl
  refine b_X11_walks_73 ?_
  simp (disch := omega) only [pk_mul, nI_add, ksub, kdv, kd8, kd64, kd2, kd3, km8, km64, kt8, ke8, ke64, kcl, kin, kle, klt, keq, up_s, up_n, up_u, true_and, and_true, false_implies, true_implies, not_false_eq_true, not_true_eq_false, qT]
  rw [hE]
  refine ⟨fun h => hrun (Or.inl h), fun h => ?_⟩
  simp (disch := omega) only [pk_mul, nI_add, ksub, kdv, kd8, kd64, kd2, kd3, km8, km64, kt8, ke8, ke64, kcl, kin, kle, klt, keq, up_s, up_n, up_u, true_and, and_true, false_implies, true_implies, not_false_eq_true, not_true_eq_false, e96]
  refine ⟨fun h2 => hrun (Or.inr h2), fun h2 => hQ J (fr_refl _ _ _) rfl rfl ?_⟩
  have hM : wkM E [(w i, pw w (i + 1))] = [] := by
    unfold wkM
    rw [List.filter_cons_of_neg]
    · rfl
    · show ¬ (decide (E = -1) || decide (nI (w i) = E)) = true
      rw [decide_eq_false h, decide_eq_false h2]
      decide
  refine ⟨?_, ?_, ?_⟩
  · rw [hM]; exact (Int32.add_zero _).symm
  · rw [hM]; rfl
  · rw [hM]; rfl
theorem c_mwalk {e : am_V} {L : Nat → Nat → Int64} {t : tw} {E : Int32} {n : Nat} (hk : tok t) (hn : n ≤ 9) : ∀ (m d i : Nat) (nw w : Nat → Nat) (J : Nat → Nat → Int32) (Q : (Nat → Nat → Int32) → Prop), m + 1 ≤ d → i + m = n → 1 ≤ i → MT t J → (∀ k, k < 512 → nw k ≤ 1000) → (∀ k, k < 512 → tB t k = false → nw k = 0) → (∀ k, k < 512 → J 87 k = nI (nw k)) → (∀ k, k ≤ i → w k < 8 ∧ J 96 k = nI (w k)) → 0 < t 1 (8 * w (i - 1) + w i) → J 73 40 = E → (∀ J', fr [87, 96] [41, 42, 43] J J' → (∀ k, k < 512 → J' 87 k = nI (nw k)) → (∀ k, k ≤ i → J' 96 k = nI (w k)) → wkU E (wkL m nw (8 * w (i - 1) + w i) (pw w (i + 1))) J J' → Q J') → C_X11_walks_73 e d (nI i) (nI n) J L Q := by
  have hk2 := hk
  obtain ⟨o0, oT, oZ, oY, oD, o9, oN, o28, oB, oX, oE, oF, oA, oH, oU, oV⟩ := hk
  intro m
  induction m with
  | zero =>
    intro d i nw w J Q hd him hi1 hM hb hz hF hw hs hE hQ
    obtain ⟨d', rfl⟩ : ∃ d', d = d' + 1 := ⟨d - 1, by omega⟩
    have hin : i = n := by omega
    rw [← hin]
    refine c_wkEnd (by omega) hw hE (fun J' f1 f2 f3 f4 => hQ J' f1 (fun k hk5 => by rw [f2]; exact hF k hk5) (fun k hki => by rw [f3]; exact (hw k hki).2) ?_)
    have : wkL 0 nw (8 * w (i - 1) + w i) (pw w (i + 1)) = [(w i, pw w (i + 1))] := by
      show [((8 * w (i - 1) + w i) % 8, pw w (i + 1))] = _
      rw [show (8 * w (i - 1) + w i) % 8 = w i from by have := (hw i (Nat.le_refl _)).1; omega]
    rw [this]
    exact f4
  | succ m ih =>
    intro d i nw w J Q hd him hi1 hM hb hz hF hw hs hE hQ
    obtain ⟨d', rfl⟩ : ∃ d', d = d' + 1 := ⟨d - 1, by omega⟩
    have w1 := (hw i (Nat.le_refl _)).1
    have w0 := (hw (i - 1) (by omega)).1
    have q1 : (i = n) = False := eq_false (by omega)
    have q2 : (i = 0) = False := eq_false (by omega)
    have ht8 : ∀ z, 8 * (8 * w (i - 1) + w i) + z = 64 * w (i - 1) + 8 * w i + z := fun z => by omega
    have hm8 : (8 * w (i - 1) + w i) % 8 = w i := by omega
    rw [wkL_s] at hQ
    refine b_X11_walks_73 ?_
    simp (disch := omega) only [pk_mul, nI_add, ksub, kdv, kd8, kd64, kd2, kd3, km8, km64, kt8, ke8, ke64, kcl, kin, kle, klt, keq, up_s, up_n, up_u, true_and, and_true, false_implies, true_implies, not_false_eq_true, not_true_eq_false, q1]
    refine lp_ux (n := t 0 0) (N := 8) (S := Nat → Nat → Int32) (T := fun z K => T_X11_walks_73_p96 e (d' + 1) (nI i) (nI n) (nI z) K L Q) (fun z K => fr [87, 96] [41, 42, 43] J K ∧ (∀ k, k < 512 → K 87 k = nI (nw k)) ∧ (∀ k, k ≤ i → K 96 k = nI (w k)) ∧ wkU E (wkP m nw (8 * w (i - 1) + w i) (pw w (i + 1)) z) J K) o0 ?_ ?_ ?_ J ⟨fr_refl _ _ _, hF, fun k hki => (hw k hki).2, wkU_0 E J⟩
    · rintro z K hz1 hz2 ⟨i1, i2, i3, i4⟩
      refine ⟨i1, i2, i3, ?_⟩
      have h0 : nw (8 * (8 * w (i - 1) + w i) + z) = 0 := by
        refine hz _ (by omega) ?_
        cases hp2 : tB t (8 * (8 * w (i - 1) + w i) + z) with
        | false => rfl
        | true =>
          have h5 := (tB_i.mp hp2).2
          have h6 := oN (w i) w1 z hz2 (by rw [show 8 * w i + z = (8 * (8 * w (i - 1) + w i) + z) % 64 from by omega]; exact h5)
          omega
      rw [wkP_s, if_neg (by omega), List.append_nil]
      exact i4
    · rintro z K hz8 ⟨i1, i2, i3, i4⟩ hnext
      rw [wkP_s, ht8, hm8] at hnext
      have MK := fr_MT i1 hM rfl
      have m1 := MK.2.1
      have g1 : (t 0 0 ≤ z) = False := eq_false (by omega)
      have e96 := i3 i (Nat.le_refl _)
      have e96b := i3 (i - 1) (by omega)
      have e81 := MK.2.2.2.2.2.2.1 (8 * w i + z) (by omega)
      have u1 := o9 (8 * w i + z) (by omega)
      have e87 := i2 (64 * w (i - 1) + 8 * w i + z) (by omega)
      have bd := hb (64 * w (i - 1) + 8 * w i + z) (by omega)
      have qm := km1 (n := 64 * w (i - 1) + 8 * w i + z) (by omega)
      by_cases hs0 : t 1 (8 * w i + z) ≤ 0
      · have hs1 := eq_true hs0
        have h0 : nw (64 * w (i - 1) + 8 * w i + z) = 0 := by
          refine hz _ (by omega) ?_
          cases hp2 : tB t (64 * w (i - 1) + 8 * w i + z) with
          | false => rfl
          | true =>
            have h5 := (tB_i.mp hp2).2
            rw [show (64 * w (i - 1) + 8 * w i + z) % 64 = 8 * w i + z from by omega] at h5
            omega
        refine b_X11_walks_73_p96 ?_
        simp (disch := omega) only [pk_mul, nI_add, ksub, kdv, kd8, kd64, kd2, kd3, km8, km64, kt8, ke8, ke64, kcl, kin, kle, klt, keq, up_s, up_n, up_u, true_and, and_true, false_implies, true_implies, not_false_eq_true, not_true_eq_false, m1, g1, e96, e81, hs1]
        rw [if_neg (by omega), List.append_nil] at hnext
        exact hnext K ⟨i1, i2, i3, i4⟩
      · have hs1 := eq_false hs0
        refine b_X11_walks_73_p96 ?_
        simp (disch := omega) only [pk_mul, nI_add, ksub, kdv, kd8, kd64, kd2, kd3, km8, km64, kt8, ke8, ke64, kcl, kin, kle, klt, keq, up_s, up_n, up_u, true_and, and_true, false_implies, true_implies, not_false_eq_true, not_true_eq_false, m1, g1, e96, e96b, e81, hs1, q2, qm, e87]
        refine ⟨fun h0 => ?_, fun h0 => ?_⟩
        · rw [if_neg (by omega), List.append_nil] at hnext
          exact hnext K ⟨i1, i2, i3, i4⟩
        · rw [if_pos (by omega)] at hnext
          have h01 : 1 ≤ nw (64 * w (i - 1) + 8 * w i + z) := by omega
          simp (disch := omega) only [pk_mul, nI_add, ksub, kdv, kd8, kd64, kd2, kd3, km8, km64, kt8, ke8, ke64, kcl, kin, kle, klt, keq, up_s, up_n, up_u, true_and, and_true, false_implies, true_implies, not_false_eq_true, not_true_eq_false]
          have fK2 : fr [87, 96] [41, 42, 43] J (va_up (va_up K 87 (va_up (K 87) (64 * w (i - 1) + 8 * w i + z) (nI (nw (64 * w (i - 1) + 8 * w i + z) - 1)))) 96 (va_up (K 96) (i + 1) (nI z))) := fr_up (fr_up i1 rfl) rfl
          refine ih d' (i + 1) (va_up nw (64 * w (i - 1) + 8 * w i + z) (nw (64 * w (i - 1) + 8 * w i + z) - 1)) (va_up w (i + 1) z) _ _ (by omega) (by omega) (by omega) (fr_MT fK2 hM rfl) (fun k hk5 => ?_) (fun k hk5 hp5 => ?_) (fun k hk5 => ?_) (fun k hki => ?_) ?_ ?_ (fun K3 fK3 h3 h4 hT3 => ?_)
          · by_cases he : k = 64 * w (i - 1) + 8 * w i + z
            · rw [he, up_s]; omega
            · rw [up_n he]; exact hb k hk5
          · by_cases he : k = 64 * w (i - 1) + 8 * w i + z
            · rw [he] at hp5
              have := hz _ (by omega) hp5
              omega
            · rw [up_n he]; exact hz k hk5 hp5
          · show va_up (K 87) (64 * w (i - 1) + 8 * w i + z) (nI (nw (64 * w (i - 1) + 8 * w i + z) - 1)) k = _
            by_cases he : k = 64 * w (i - 1) + 8 * w i + z
            · rw [he, up_s, up_s]
            · rw [up_n he, up_n he]; exact i2 k hk5
          · show va_up w (i + 1) z k < 8 ∧ va_up (K 96) (i + 1) (nI z) k = nI (va_up w (i + 1) z k)
            by_cases he : k = i + 1
            · rw [he, up_s, up_s]; exact ⟨by omega, rfl⟩
            · rw [up_n he, up_n he]; exact ⟨(hw k (by omega)).1, i3 k (by omega)⟩
          · rw [show i + 1 - 1 = i from by omega, up_n (by omega), up_s]
            omega
          · show K 73 40 = E
            rw [i1.2 40 (by decide)]
            exact hE
          · rw [show i + 1 - 1 = i from by omega, up_n (show i ≠ i + 1 from by omega), up_s, pw_s, up_s, pw_c (w := va_up w (i + 1) z) (w' := w) (fun k hk => up_n (by omega))] at hT3
            have e2 := h3 (64 * w (i - 1) + 8 * w i + z) (by omega)
            rw [up_s] at e2
            have q6 : nw (64 * w (i - 1) + 8 * w i + z) - 1 + 1 = nw (64 * w (i - 1) + 8 * w i + z) := by omega
            simp (disch := omega) only [pk_mul, nI_add, ksub, kdv, kd8, kd64, kd2, kd3, km8, km64, kt8, ke8, ke64, kcl, kin, kle, klt, keq, up_s, up_n, up_u, true_and, and_true, false_implies, true_implies, not_false_eq_true, not_true_eq_false, e2, q6]
            refine hnext _ ⟨fr_up (fr_trans fK2 fK3) rfl, fun k hk5 => ?_, fun k hki => ?_, ?_⟩
            · show va_up (K3 87) (64 * w (i - 1) + 8 * w i + z) (nI (nw (64 * w (i - 1) + 8 * w i + z))) k = _
              by_cases he : k = 64 * w (i - 1) + 8 * w i + z
              · rw [he, up_s]
              · rw [up_n he, h3 k hk5, up_n he]
            · have h9 := h4 k (by omega)
              rw [up_n (by omega)] at h9
              exact h9
            · exact wkU_t i4 (wkU_c hT3 rfl rfl)
    · rintro K ⟨i1, i2, i3, i4⟩
      have MK := fr_MT i1 hM rfl
      have m1 := MK.2.1
      have g1 : (t 0 0 ≤ t 0 0) = True := eq_true (Nat.le_refl _)
      refine b_X11_walks_73_p96 ?_
      simp (disch := omega) only [pk_mul, nI_add, ksub, kdv, kd8, kd64, kd2, kd3, km8, km64, kt8, ke8, ke64, kcl, kin, kle, klt, keq, up_s, up_n, up_u, true_and, and_true, false_implies, true_implies, not_false_eq_true, not_true_eq_false, m1, g1]
      exact hQ K i1 i2 i3 i4
theorem c_mwalk0 {e : am_V} {L : Nat → Nat → Int64} {t : tw} {E : Int32} {n x : Nat} {nw : Nat → Nat} {J : Nat → Nat → Int32} {Q : (Nat → Nat → Int32) → Prop} (hk : tok t) (hn : n ≤ 9) (hx : x < 8) (hM : MT t J) (hb : ∀ k, k < 512 → nw k ≤ 1000) (hz : ∀ k, k < 512 → tB t k = false → nw k = 0) (hF : ∀ k, k < 512 → J 87 k = nI (nw k)) (hw : J 96 0 = nI x) (hE : J 73 40 = E) (hQ : ∀ J', fr [87, 96] [41, 42, 43] J J' → wkU E (wkA (t 1) n nw x) J J' → Q J') : C_X11_walks_73 e 30 (nI 0) (nI n) J L Q := by
  have hk2 := hk
  obtain ⟨o0, oT, oZ, oY, oD, o9, oN, o28, oB, oX, oE, oF, oA, oH, oU, oV⟩ := hk
  have hwx : ∀ k, k ≤ 0 → (fun _ : Nat => x) k < 8 ∧ J 96 k = nI ((fun _ : Nat => x) k) := fun k hk0 => by
    have : k = 0 := by omega
    rw [this]
    exact ⟨hx, hw⟩
  cases n with
  | zero =>
    refine c_wkEnd (d := 29) (w := fun _ => x) (by omega) hwx hE (fun J' f1 f2 f3 f4 => hQ J' f1 ?_)
    have : pw (fun _ => x) (0 + 1) = 2 ^ x := by
      show 0 ||| 2 ^ x = 2 ^ x
      rw [Nat.zero_or]
    rw [this] at f4
    exact f4
  | succ n =>
    have q1 : (0 = n + 1) = False := eq_false (by omega)
    have q2 : ((0 : Nat) = 0) = True := eq_true rfl
    refine b_X11_walks_73 (d := 29) ?_
    simp (disch := omega) only [pk_mul, nI_add, ksub, kdv, kd8, kd64, kd2, kd3, km8, km64, kt8, ke8, ke64, kcl, kin, kle, klt, keq, up_s, up_n, up_u, true_and, and_true, false_implies, true_implies, not_false_eq_true, not_true_eq_false, q1]
    refine lp_ux (n := t 0 0) (N := 8) (S := Nat → Nat → Int32) (T := fun z K => T_X11_walks_73_p96 e (29 + 1) (nI 0) (nI (n + 1)) (nI z) K L Q) (fun z K => fr [87, 96] [41, 42, 43] J K ∧ (∀ k, k < 512 → K 87 k = nI (nw k)) ∧ K 96 0 = nI x ∧ wkU E (wk0 (t 1) n nw x z) J K) o0 ?_ ?_ ?_ J ⟨fr_refl _ _ _, hF, hw, wkU_0 E J⟩
    · rintro z K hz1 hz2 ⟨i1, i2, i3, i4⟩
      refine ⟨i1, i2, i3, ?_⟩
      rw [wk0_s, if_neg, List.append_nil]
      · exact i4
      · intro h
        have := oN x hx z hz2 h
        omega
    · rintro z K hz8 ⟨i1, i2, i3, i4⟩ hnext
      rw [wk0_s] at hnext
      have MK := fr_MT i1 hM rfl
      have m1 := MK.2.1
      have g1 : (t 0 0 ≤ z) = False := eq_false (by omega)
      have e81 := MK.2.2.2.2.2.2.1 (8 * x + z) (by omega)
      have u1 := o9 (8 * x + z) (by omega)
      refine b_X11_walks_73_p96 ?_
      simp (disch := omega) only [pk_mul, nI_add, ksub, kdv, kd8, kd64, kd2, kd3, km8, km64, kt8, ke8, ke64, kcl, kin, kle, klt, keq, up_s, up_n, up_u, true_and, and_true, false_implies, true_implies, not_false_eq_true, not_true_eq_false, m1, g1, i3, e81, q2]
      refine ⟨fun h0 => ?_, fun h0 => ?_⟩
      · rw [if_neg (by omega), List.append_nil] at hnext
        exact hnext K ⟨i1, i2, i3, i4⟩
      · rw [if_pos (by omega)] at hnext
        have fK2 : fr [87, 96] [41, 42, 43] J (va_up K 96 (va_up (K 96) 1 (nI z))) := fr_up i1 rfl
        refine c_mwalk (E := E) (n := n + 1) hk2 hn n 29 1 nw (va_up (fun _ => x) 1 z) _ _ (by omega) (by omega) (by omega) (fr_MT fK2 hM rfl) hb hz i2 (fun k hki => ?_) ?_ ?_ (fun K3 fK3 h3 h4 hT3 => ?_)
        · show va_up (fun _ => x) 1 z k < 8 ∧ va_up (K 96) 1 (nI z) k = nI (va_up (fun _ => x) 1 z k)
          by_cases he : k = 1
          · rw [he, up_s, up_s]; exact ⟨by omega, rfl⟩
          · have : k = 0 := by omega
            rw [this, up_n (by decide), up_n (by decide)]
            exact ⟨hx, i3⟩
        · show 0 < t 1 (8 * x + z)
          omega
        · show K 73 40 = E
          rw [i1.2 40 (by decide)]
          exact hE
        · have hp : pw (va_up (fun _ => x) 1 z) (1 + 1) = 2 ^ x ||| 2 ^ z := by
            show (0 ||| 2 ^ x) ||| 2 ^ z = _
            rw [Nat.zero_or]
          rw [hp] at hT3
          refine hnext K3 ⟨fr_trans fK2 fK3, h3, h4 0 (by omega), ?_⟩
          exact wkU_t i4 (wkU_c hT3 rfl rfl)
    · rintro K ⟨i1, i2, i3, i4⟩
      have MK := fr_MT i1 hM rfl
      have m1 := MK.2.1
      have g1 : (t 0 0 ≤ t 0 0) = True := eq_true (Nat.le_refl _)
      refine b_X11_walks_73_p96 ?_
      simp (disch := omega) only [pk_mul, nI_add, ksub, kdv, kd8, kd64, kd2, kd3, km8, km64, kt8, ke8, ke64, kcl, kin, kle, klt, keq, up_s, up_n, up_u, true_and, and_true, false_implies, true_implies, not_false_eq_true, not_true_eq_false, m1, g1]
      exact hQ K i1 i4
