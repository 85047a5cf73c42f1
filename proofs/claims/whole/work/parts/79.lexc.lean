/-! the tape's words: pure; the class's reader of them -/
def spb (v : Int32) : Bool := decide (v = nI 32) || decide (v = nI 10)
def kc (v : Int32) : Nat := if ¬ v < nI 97 ∧ ¬ nI 122 < v then 1 else if ¬ v < nI 48 ∧ ¬ nI 57 < v then 2 else if v = nI 59 then 3 else 4
def kAt (b : Nat → Int32) (n i : Nat) : Nat := if i < n then kc (b i) else 0
def tS (b : Nat → Int32) (n p : Nat) : Nat := p + ff (fun j => !(spb (b (p + j)))) (n - p)
def tK (b : Nat → Int32) (n p : Nat) : Nat := kAt b n (tS b n p)
def tE (b : Nat → Int32) (n p : Nat) : Nat := if tK b n p = 1 ∨ tK b n p = 2 then tS b n p + ff (fun j => !(decide (kAt b n (tS b n p + j) = tK b n p))) (n - tS b n p) else if tK b n p = 0 then tS b n p else tS b n p + 1
theorem kc_le (v : Int32) : 1 ≤ kc v ∧ kc v ≤ 4 := by
  unfold kc
  split
  · omega
  · split
    · omega
    · split <;> omega
theorem kAt_le (b : Nat → Int32) (n i : Nat) : kAt b n i ≤ 4 := by
  unfold kAt
  split
  · exact (kc_le _).2
  · omega
theorem kAt_0 {b : Nat → Int32} {n i : Nat} : kAt b n i = 0 ↔ n ≤ i := by
  unfold kAt
  split
  · rename_i h
    have := (kc_le (b i)).1
    constructor <;> intro _ <;> omega
  · constructor <;> intro _ <;> omega
theorem tS_eq {b : Nat → Int32} {n p i : Nat} (h1 : p ≤ i) (h2 : i ≤ n) (h3 : ∀ j, p ≤ j → j < i → spb (b j) = true) (h4 : i < n → spb (b i) = false) : tS b n p = i := by
  unfold tS
  by_cases hi : i < n
  · rw [ff_eq (k := i - p) (by omega) (by show (!(spb (b (p + (i - p))))) = true; rw [show p + (i - p) = i from by omega, h4 hi]; rfl) (fun j hj => by show (!(spb (b (p + j)))) = false; rw [h3 (p + j) (by omega) (by omega)]; rfl)]
    omega
  · rw [ff_no (fun j hj => by show (!(spb (b (p + j)))) = false; rw [h3 (p + j) (by omega) (by omega)]; rfl)]
    omega
theorem tS_b {b : Nat → Int32} {n p : Nat} (h : p ≤ n) : p ≤ tS b n p ∧ tS b n p ≤ n := by
  unfold tS
  have := (ff_sp (fun j => !(spb (b (p + j)))) (n - p)).1
  omega
theorem tE_eq {b : Nat → Int32} {n p i : Nat} (hk : tK b n p = 1 ∨ tK b n p = 2) (h1 : tS b n p ≤ i) (h2 : i ≤ n) (h3 : ∀ j, tS b n p ≤ j → j < i → kAt b n j = tK b n p) (h4 : i < n → kAt b n i ≠ tK b n p) : tE b n p = i := by
  unfold tE
  rw [if_pos hk]
  by_cases hi : i < n
  · rw [ff_eq (k := i - tS b n p) (by omega) (by show (!(decide (kAt b n (tS b n p + (i - tS b n p)) = tK b n p))) = true; rw [show tS b n p + (i - tS b n p) = i from by omega, decide_eq_false (h4 hi)]; rfl) (fun j hj => by show (!(decide (kAt b n (tS b n p + j) = tK b n p))) = false; rw [decide_eq_true (h3 _ (by omega) (by omega))]; rfl)]
    omega
  · rw [ff_no (fun j hj => by show (!(decide (kAt b n (tS b n p + j) = tK b n p))) = false; rw [decide_eq_true (h3 _ (by omega) (by omega))]; rfl)]
    omega
theorem tE_in {b : Nat → Int32} {n p j : Nat} (hk : tK b n p = 1 ∨ tK b n p = 2) (h1 : tS b n p ≤ j) (h2 : j < tE b n p) : kAt b n j = tK b n p := by
  unfold tE at h2
  rw [if_pos hk] at h2
  have h3 := (ff_sp (fun j => !(decide (kAt b n (tS b n p + j) = tK b n p))) (n - tS b n p)).2.1 (j - tS b n p) (by omega)
  have h4 : (!(decide (kAt b n (tS b n p + (j - tS b n p)) = tK b n p))) = false := h3
  rw [show tS b n p + (j - tS b n p) = j from by omega] at h4
  by_cases h5 : kAt b n j = tK b n p
  · exact h5
  · rw [decide_eq_false h5] at h4
    cases h4
theorem tE_b {b : Nat → Int32} {n p : Nat} (h : p ≤ n) : tS b n p ≤ tE b n p ∧ tE b n p ≤ n ∧ (tK b n p ≠ 0 → tS b n p < n ∧ tS b n p < tE b n p) := by
  have h0 := tS_b (b := b) h
  have hk : tK b n p ≠ 0 → tS b n p < n := fun h1 => by
    rcases Nat.lt_or_ge (tS b n p) n with h2 | h2
    · exact h2
    · exact absurd (kAt_0.mpr h2) h1
  unfold tE
  by_cases h1 : tK b n p = 1 ∨ tK b n p = 2
  · rw [if_pos h1]
    have h2 := ff_sp (fun j => !(decide (kAt b n (tS b n p + j) = tK b n p))) (n - tS b n p)
    have h3 := hk (by omega)
    refine ⟨by omega, by omega, fun _ => ⟨h3, ?_⟩⟩
    rcases Nat.eq_zero_or_pos (ff (fun j => !(decide (kAt b n (tS b n p + j) = tK b n p))) (n - tS b n p)) with h4 | h4
    · have h5 : (!(decide (kAt b n (tS b n p + 0) = tK b n p))) = true := by
        have := h2.2.2 (by omega)
        rw [h4] at this
        exact this
      rw [Nat.add_zero, decide_eq_true (show kAt b n (tS b n p) = tK b n p from rfl)] at h5
      cases h5
    · omega
  · rw [if_neg h1]
    by_cases h2 : tK b n p = 0
    · rw [if_pos h2]
      exact ⟨Nat.le_refl _, h0.2, fun h3 => absurd h2 h3⟩
    · rw [if_neg h2]
      have := hk h2
      exact ⟨by omega, by omega, fun _ => ⟨this, by omega⟩⟩
def dgt (v : Int32) : Nat := v.toNatClampNeg - 48
theorem kc_2 {v : Int32} (h : kc v = 2) : ∃ d, d < 10 ∧ v = nI (48 + d) ∧ dgt v = d := by
  have h1 : ¬ v < nI 48 ∧ ¬ nI 57 < v := by
    unfold kc at h
    split at h
    · omega
    · split at h
      · assumption
      · split at h <;> omega
  have h2 : ¬ v < nI 0 := fun h3 => h1.1 (by
    rw [Int32.lt_iff_toInt_lt, nI_toInt (by decide)] at h3 ⊢
    omega)
  obtain ⟨m, hm, rfl⟩ := nI_of h2
  rw [nI_ltI hm (by decide), nI_ltI (by decide) hm] at h1
  refine ⟨m - 48, by omega, by rw [show 48 + (m - 48) = m from by omega], ?_⟩
  unfold dgt
  rw [nI_clamp hm]
theorem kc_1 {v : Int32} (h : kc v = 1) : ∃ d, 1 ≤ d ∧ d ≤ 26 ∧ v = nI (96 + d) := by
  have h1 : ¬ v < nI 97 ∧ ¬ nI 122 < v := by
    unfold kc at h
    split at h
    · assumption
    · split at h
      · omega
      · split at h <;> omega
  have h2 : ¬ v < nI 0 := fun h3 => h1.1 (by
    rw [Int32.lt_iff_toInt_lt, nI_toInt (by decide)] at h3 ⊢
    omega)
  obtain ⟨m, hm, rfl⟩ := nI_of h2
  rw [nI_ltI hm (by decide), nI_ltI (by decide) hm] at h1
  exact ⟨m - 96, by omega, by omega, by rw [show 96 + (m - 96) = m from by omega]⟩
/-- the number that digits make, never above 1000000 -/
def cvl (b : Nat → Int32) (s : Nat) : Nat → Nat
  | 0 => 0
  | m + 1 => if 1000000 < cvl b s m * 10 + dgt (b (s + m)) then 1000000 else cvl b s m * 10 + dgt (b (s + m))
theorem cvl_le (b : Nat → Int32) (s m : Nat) : cvl b s m ≤ 1000000 := by
  cases m with
  | zero => exact Nat.zero_le _
  | succ m =>
    show (if 1000000 < cvl b s m * 10 + dgt (b (s + m)) then 1000000 else cvl b s m * 10 + dgt (b (s + m))) ≤ 1000000
    split <;> omega
def tV (b : Nat → Int32) (n p : Nat) : Nat := cvl b (tS b n p) (tE b n p - tS b n p)
/-- the words: 0 town, 1 crossings, 2 uses, 3 half, 4 street, 5 turn, 6 errand, 7 at -/
def xch (j i : Nat) : Int32 := ((am_xb.getD j []).getD i 0) &&& 255
def isW (b : Nat → Int32) (n p j : Nat) : Prop := tK b n p = 1 ∧ tE b n p - tS b n p = am_xl.getD j 0 ∧ ∀ i, i < am_xl.getD j 0 → b (tS b n p + i) = xch j i
/-- the class's reader at a place, with a fault or none -/
def RS (b : Nat → Int32) (n p f s : Nat) (J : Nat → Nat → Int32) : Prop := J 37 2 = nI n ∧ J 37 3 = nI (tK b n p) ∧ J 37 4 = nI (tS b n p) ∧ J 37 5 = nI (tE b n p) ∧ J 37 6 = nI f ∧ J 37 7 = if f = 0 then (-1 : Int32) else nI s
theorem c_kindAt {e : am_V} {I : Nat → Nat → Int32} {L : Nat → Nat → Int64} {Q : Int32 → (Nat → Nat → Int32) → Prop} {n i : Nat} (h2 : I 37 2 = nI n) (hn : n ≤ 1600) (hi : i ≤ 1600) (hQ : Q (nI (kAt (I 1) n i)) I) : C_X4_kindAt_37 e (nI i) I L Q := by
  refine b_X4_kindAt_37 ?_
  by_cases hi2 : i < n
  · have q1 := eq_true hi2
    have hk : kAt (I 1) n i = kc (I 1 i) := if_pos hi2
    rw [hk] at hQ
    unfold kc at hQ
    simp (disch := omega) only [pk_mul, nI_add, ksub, kdv, kd8, kd64, kd2, kd3, km8, km64, kt8, ke8, ke64, kcl, kin, kle, klt, keq, up_s, up_n, up_u, true_and, and_true, false_implies, true_implies, not_false_eq_true, not_true_eq_false, h2, knl, q1]
    generalize I 1 i = w at hQ
    by_cases a1 : w < nI 97 <;> by_cases a2 : nI 122 < w <;> by_cases a3 : w < nI 48 <;> by_cases a4 : nI 57 < w <;> rcases Classical.propComplete (w = nI 59) with a5 | a5 <;> simp only [a1, a2, a3, a4, a5, not_true_eq_false, not_false_eq_true, true_implies, false_implies, and_true, true_and, and_false, false_and, and_self, if_true, if_false] at hQ ⊢ <;> exact hQ
  · have q1 := eq_false hi2
    rw [kAt_0.mpr (by omega)] at hQ
    simp (disch := omega) only [pk_mul, nI_add, ksub, kdv, kd8, kd64, kd2, kd3, km8, km64, kt8, ke8, ke64, kcl, kin, kle, klt, keq, up_s, up_n, up_u, true_and, and_true, false_implies, true_implies, not_false_eq_true, not_true_eq_false, h2, knl, q1]
    exact hQ
theorem c_adv {e : am_V} {J : Nat → Nat → Int32} {L : Nat → Nat → Int64} {Q : (Nat → Nat → Int32) → Prop} {b : Nat → Int32} {n p : Nat} (hb : J 1 = b) (hn : n ≤ 1600) (hp : p ≤ n) (h2 : J 37 2 = nI n) (h5 : J 37 5 = nI p) (h6 : J 37 6 = nI 0) (h7 : J 37 7 = (-1 : Int32)) (hQ : ∀ K, (∀ a, a ≠ 37 → K a = J a) → RS b n p 0 0 K → Q K) : C_X4_advance_37 e J L Q := by
  -- the token's end
  have h104 : ∀ m i K, n - i = m → tS b n p ≤ i → i ≤ n → (tK b n p = 1 ∨ tK b n p = 2) → (∀ j, tS b n p ≤ j → j < i → kAt b n j = tK b n p) → (∀ a, a ≠ 37 → K a = J a) → K 37 2 = nI n → K 37 3 = nI (tK b n p) → K 37 4 = nI (tS b n p) → K 37 5 = nI i → K 37 6 = nI 0 → K 37 7 = (-1 : Int32) → T_X4_advance_37_p104 e K L Q := by
    intro m
    induction m with
    | zero =>
      intro i K hm hi1 hi2 hk hj k1 k2 k3 k4 k5 k6 k7
      have q1 : (n ≤ i) = True := eq_true (by omega)
      refine b_X4_advance_37_p104 ?_
      rw [k2, k5]
      refine ⟨fun _ => hQ K k1 ⟨k2, k3, k4, ?_, k6, by rw [if_pos rfl]; exact k7⟩, fun h => absurd ((nI_leI (by omega) (by omega)).mpr (by omega)) h⟩
      rw [k5, tE_eq hk hi1 hi2 hj (by omega)]
    | succ m ih =>
      intro i K hm hi1 hi2 hk hj k1 k2 k3 k4 k5 k6 k7
      refine b_X4_advance_37_p104 ?_
      rw [k2, k5]
      refine ⟨fun h => absurd ((nI_leI (by omega) (by omega)).mp h) (by omega), fun _ => ?_⟩
      have hK1 : K 1 = b := (k1 1 (by decide)).trans hb
      refine c_kindAt k2 hn (by omega) ?_
      rw [hK1, k3]
      have hkl := kAt_le b n i
      have hkl2 : tK b n p ≤ 4 := kAt_le _ _ _
      refine ⟨fun he => ?_, fun he => ?_⟩
      · rw [nI_eq (by omega) (by omega)] at he
        rw [k5, nI_add]
        refine ih (i + 1) _ (by omega) (by omega) (by omega) hk (fun j h1 h2 => ?_) (fun a ha => by rw [up_n ha]; exact k1 a ha) k2 k3 k4 rfl k6 k7
        by_cases hji : j = i
        · rw [hji]; exact he
        · exact hj j h1 (by omega)
      · refine hQ K k1 ⟨k2, k3, k4, ?_, k6, by rw [if_pos rfl]; exact k7⟩
        rw [k5, tE_eq hk hi1 hi2 hj (fun _ h => he (by rw [h]))]
  -- at the token's first sign
  have hfin : ∀ K i, tS b n p = i → (∀ a, a ≠ 37 → K a = J a) → K 37 2 = nI n → K 37 4 = nI i → K 37 5 = nI i → K 37 6 = nI 0 → K 37 7 = (-1 : Int32) → C_X4_kindAt_37 e (nI i) K L (fun r2 I3 => ((r2 = nI 1 → T_X4_advance_37_p104 e (va_up I3 37 (va_up (I3 37) 3 r2)) L Q) ∧ (¬ r2 = nI 1 → ((r2 = nI 2 → T_X4_advance_37_p104 e (va_up I3 37 (va_up (I3 37) 3 r2)) L Q) ∧ (¬ r2 = nI 2 → ((r2 = nI 0 → Q (va_up I3 37 (va_up (I3 37) 3 r2))) ∧ (¬ r2 = nI 0 → Q (va_up (va_up I3 37 (va_up (I3 37) 3 r2)) 37 (va_up (va_up (I3 37) 3 r2) 5 ((I3 37 5) + nI 1))))))))))  := by
    intro K i hi k1 k2 k4 k5 k6 k7
    have hsb := tS_b (b := b) hp
    refine c_kindAt k2 hn (by omega) ?_
    have hK1 : K 1 = b := (k1 1 (by decide)).trans hb
    have hkk : kAt b n i = tK b n p := by rw [← hi]; rfl
    rw [hK1, hkk]
    have hkl : tK b n p ≤ 4 := kAt_le _ _ _
    have hfr : ∀ f : Nat → Int32, ∀ a, a ≠ 37 → va_up K 37 f a = J a := fun f a ha => by rw [up_n ha]; exact k1 a ha
    have h1 : (tK b n p = 1 ∨ tK b n p = 2) → T_X4_advance_37_p104 e (va_up K 37 (va_up (K 37) 3 (nI (tK b n p)))) L Q := fun hk => h104 _ i _ rfl (by omega) (by omega) hk (fun j h1 h2 => by omega) (hfr _) k2 rfl (by rw [hi]; exact k4) k5 k6 k7
    refine ⟨fun h => h1 (Or.inl ?_), fun n1 => ⟨fun h => h1 (Or.inr ?_), fun n2 => ⟨fun h => ?_, fun h => ?_⟩⟩⟩
    · rw [nI_eq (by omega) (by decide)] at h; exact h
    · rw [nI_eq (by omega) (by decide)] at h; exact h
    · rw [nI_eq (by omega) (by decide)] at h
      refine hQ _ (hfr _) ⟨k2, rfl, by rw [hi]; exact k4, ?_, k6, by rw [if_pos rfl]; exact k7⟩
      unfold tE
      rw [if_neg (by omega), if_pos h, hi]
      exact k5
    · rw [nI_eq (by omega) (by decide)] at n1 n2 h
      refine hQ _ (fun a ha => by rw [up_n ha]; exact hfr _ a ha) ⟨k2, rfl, by rw [hi]; exact k4, ?_, k6, by rw [if_pos rfl]; exact k7⟩
      unfold tE
      rw [if_neg (by omega), if_neg h, hi]
      show K 37 5 + nI 1 = _
      rw [k5, nI_add]
  have h16 : ∀ m i K, n - i = m → p ≤ i → i ≤ n → (∀ j, p ≤ j → j < i → spb (b j) = true) → (∀ a, a ≠ 37 → K a = J a) → K 37 2 = nI n → K 37 4 = nI i → K 37 6 = nI 0 → K 37 7 = (-1 : Int32) → T_X4_advance_37_p16 e K L Q := by
    intro m
    induction m with
    | zero =>
      intro i K hm hi1 hi2 hj k1 k2 k4 k6 k7
      refine b_X4_advance_37_p16 ?_
      rw [k2, k4]
      refine ⟨fun _ => ?_, fun h => absurd ((nI_leI (by omega) (by omega)).mpr (by omega)) h⟩
      exact hfin _ i (tS_eq hi1 hi2 hj (by omega)) (fun a ha => by rw [up_n ha]; exact k1 a ha) k2 k4 rfl k6 k7
    | succ m ih =>
      intro i K hm hi1 hi2 hj k1 k2 k4 k6 k7
      have hK1 : K 1 = b := (k1 1 (by decide)).trans hb
      refine b_X4_advance_37_p16 ?_
      rw [k2, k4, nI_clamp (by omega), hK1, nI_add]
      refine ⟨fun h => absurd ((nI_leI (by omega) (by omega)).mp h) (by omega), fun _ => ⟨vp_in_nI (by omega) (by decide), fun hs => ?_, fun hs => ⟨vp_in_nI (by omega) (by decide), fun hs2 => ?_, fun hs2 => ?_⟩⟩⟩
      · refine ih (i + 1) _ (by omega) (by omega) (by omega) (fun j h1 h2 => ?_) (fun a ha => by rw [up_n ha]; exact k1 a ha) k2 rfl k6 k7
        by_cases hji : j = i
        · rw [hji]; unfold spb; rw [decide_eq_true hs]; rfl
        · exact hj j h1 (by omega)
      · refine ih (i + 1) _ (by omega) (by omega) (by omega) (fun j h1 h2 => ?_) (fun a ha => by rw [up_n ha]; exact k1 a ha) k2 rfl k6 k7
        by_cases hji : j = i
        · rw [hji]; unfold spb; rw [decide_eq_true hs2, Bool.or_true]
        · exact hj j h1 (by omega)
      · exact hfin _ i (tS_eq hi1 hi2 hj (fun _ => by unfold spb; rw [decide_eq_false hs, decide_eq_false hs2]; rfl)) (fun a ha => by rw [up_n ha]; exact k1 a ha) k2 k4 rfl k6 k7
  refine b_X4_advance_37 ⟨fun _ => ?_, fun h => absurd h6 h⟩
  rw [h5]
  exact h16 _ p _ rfl (Nat.le_refl _) hp (fun j h1 h2 => by omega) (fun a ha => up_n ha) h2 rfl h6 h7
theorem c_value {e : am_V} {J : Nat → Nat → Int32} {L : Nat → Nat → Int64} {Q : Int32 → (Nat → Nat → Int32) → Prop} {b : Nat → Int32} {n p f s : Nat} (hb : J 1 = b) (hn : n ≤ 1600) (hp : p ≤ n) (hR : RS b n p f s J) (hk : tK b n p = 2) (hQ : Q (nI (tV b n p)) J) : C_X4_valueHere_37 e J L Q := by
  obtain ⟨k2, k3, k4, k5, k6, k7⟩ := hR
  have hsb := tS_b (b := b) hp
  have heb := tE_b (b := b) hp
  refine b_X4_valueHere_37 ?_
  rw [k4]
  have h7 : ∀ m i, tE b n p - i = m → tS b n p ≤ i → i ≤ tE b n p → T_X4_valueHere_37_p7 e (nI (cvl b (tS b n p) (i - tS b n p))) (nI i) J L Q := by
    intro m
    induction m with
    | zero =>
      intro i hm hi1 hi2
      refine b_X4_valueHere_37_p7 ?_
      rw [k5]
      refine ⟨fun _ => ?_, fun h => absurd ((nI_leI (by omega) (by omega)).mpr (by omega)) h⟩
      rw [show i = tE b n p from by omega]
      exact hQ
    | succ m ih =>
      intro i hm hi1 hi2
      have hki := tE_in (Or.inr hk) hi1 (show i < tE b n p from by omega)
      rw [hk] at hki
      unfold kAt at hki
      rw [if_pos (by omega)] at hki
      obtain ⟨d, d1, d2, d3⟩ := kc_2 hki
      have hcv := cvl_le b (tS b n p) (i - tS b n p)
      have e1 : cvl b (tS b n p) (i + 1 - tS b n p) = if 1000000 < cvl b (tS b n p) (i - tS b n p) * 10 + d then 1000000 else cvl b (tS b n p) (i - tS b n p) * 10 + d := by
        rw [show i + 1 - tS b n p = (i - tS b n p) + 1 from by omega]
        show (if 1000000 < cvl b (tS b n p) (i - tS b n p) * 10 + dgt (b (tS b n p + (i - tS b n p))) then 1000000 else cvl b (tS b n p) (i - tS b n p) * 10 + dgt (b (tS b n p + (i - tS b n p)))) = _
        rw [show tS b n p + (i - tS b n p) = i from by omega, d3]
      have h3 := ih (i + 1) (by omega) (by omega) (by omega)
      rw [e1] at h3
      refine b_X4_valueHere_37_p7 ?_
      rw [k5]
      refine ⟨fun h => absurd ((nI_leI (by omega) (by omega)).mp h) (by omega), fun _ => ⟨vp_in_nI (by omega) (by decide), ?_⟩⟩
      rw [nI_clamp (by omega), hb, d2, pk_sub (by omega), show 48 + d - 48 = d from by omega, pk_mul, nI_add, nI_add]
      by_cases hc : 1000000 < cvl b (tS b n p) (i - tS b n p) * 10 + d
      · rw [if_pos hc] at h3
        rw [if_pos ((nI_ltI (by decide) (by omega)).mpr hc)]
        exact h3
      · rw [if_neg hc] at h3
        rw [if_neg (fun h => hc ((nI_ltI (by decide) (by omega)).mp h))]
        exact h3
  have h8 := h7 _ (tS b n p) rfl (Nat.le_refl _) heb.1
  rw [Nat.sub_self] at h8
  exact h8
theorem c_isW_0 {e : am_V} {J : Nat → Nat → Int32} {L : Nat → Nat → Int64} {Q : Int32 → (Nat → Nat → Int32) → Prop} {b : Nat → Int32} {n p f s : Nat} (hb : J 1 = b) (hn : n ≤ 1600) (hp : p ≤ n) (hR : RS b n p f s J) (h1 : isW b n p 0 → Q (nI 1) J) (h0 : ¬ isW b n p 0 → Q (nI 0) J) : C_X4_isWord_37_s0 e J L Q := by
  obtain ⟨k2, k3, k4, k5, k6, k7⟩ := hR
  have hsb := tS_b (b := b) hp
  have heb := tE_b (b := b) hp
  have hkl : tK b n p ≤ 4 := kAt_le _ _ _
  refine b_X4_isWord_37_s0 ?_
  rw [k3, k4, k5, pk_sub heb.1]
  refine ⟨fun hk => ⟨fun hl => ?_, fun hl => h0 (fun hw => hl ?_)⟩, fun hk => h0 (fun hw => hk (by rw [hw.1]))⟩
  · rw [nI_eq (by omega) (by decide)] at hk hl
    refine lp_up (n := 4) (S := Unit) (T := fun i _ => T_X4_isWord_37_s0_p28 e (nI i) J L Q) (fun i _ => ∀ i', i' < i → b (tS b n p + i') = xch 0 i') ?_ ?_ 0 () (Nat.zero_le _) (fun i' h => absurd h (Nat.not_lt_zero _))
    · intro i _ hi hv hnext
      refine b_X4_isWord_37_s0_p28 ?_
      rw [k4, nI_add, nI_add, nI_clamp (show i < _ from by omega), nI_clamp (by omega), hb]
      refine ⟨fun h => absurd ((nI_leI (by decide) (by omega)).mp h) (by omega), fun _ => ⟨vp_in_nI (by omega) (by decide), vp_in_nI (by omega) (by decide), fun he => hnext () (fun i' hi' => ?_), fun he => h0 (fun hw => he (hw.2.2 i hi))⟩⟩
      by_cases hii : i' = i
      · rw [hii]; exact he
      · exact hv i' (by omega)
    · intro _ hv
      refine b_X4_isWord_37_s0_p28 ⟨fun _ => h1 ⟨hk, hl, hv⟩, fun h => absurd (show nI 4 ≤ nI 4 from by decide) h⟩
  · rw [hw.2.1]
    rfl
theorem c_isW_1 {e : am_V} {J : Nat → Nat → Int32} {L : Nat → Nat → Int64} {Q : Int32 → (Nat → Nat → Int32) → Prop} {b : Nat → Int32} {n p f s : Nat} (hb : J 1 = b) (hn : n ≤ 1600) (hp : p ≤ n) (hR : RS b n p f s J) (h1 : isW b n p 1 → Q (nI 1) J) (h0 : ¬ isW b n p 1 → Q (nI 0) J) : C_X4_isWord_37_s1 e J L Q := by
  obtain ⟨k2, k3, k4, k5, k6, k7⟩ := hR
  have hsb := tS_b (b := b) hp
  have heb := tE_b (b := b) hp
  have hkl : tK b n p ≤ 4 := kAt_le _ _ _
  refine b_X4_isWord_37_s1 ?_
  rw [k3, k4, k5, pk_sub heb.1]
  refine ⟨fun hk => ⟨fun hl => ?_, fun hl => h0 (fun hw => hl ?_)⟩, fun hk => h0 (fun hw => hk (by rw [hw.1]))⟩
  · rw [nI_eq (by omega) (by decide)] at hk hl
    refine lp_up (n := 9) (S := Unit) (T := fun i _ => T_X4_isWord_37_s1_p28 e (nI i) J L Q) (fun i _ => ∀ i', i' < i → b (tS b n p + i') = xch 1 i') ?_ ?_ 0 () (Nat.zero_le _) (fun i' h => absurd h (Nat.not_lt_zero _))
    · intro i _ hi hv hnext
      refine b_X4_isWord_37_s1_p28 ?_
      rw [k4, nI_add, nI_add, nI_clamp (show i < _ from by omega), nI_clamp (by omega), hb]
      refine ⟨fun h => absurd ((nI_leI (by decide) (by omega)).mp h) (by omega), fun _ => ⟨vp_in_nI (by omega) (by decide), vp_in_nI (by omega) (by decide), fun he => hnext () (fun i' hi' => ?_), fun he => h0 (fun hw => he (hw.2.2 i hi))⟩⟩
      by_cases hii : i' = i
      · rw [hii]; exact he
      · exact hv i' (by omega)
    · intro _ hv
      refine b_X4_isWord_37_s1_p28 ⟨fun _ => h1 ⟨hk, hl, hv⟩, fun h => absurd (show nI 9 ≤ nI 9 from by decide) h⟩
  · rw [hw.2.1]
    rfl
theorem c_isW_2 {e : am_V} {J : Nat → Nat → Int32} {L : Nat → Nat → Int64} {Q : Int32 → (Nat → Nat → Int32) → Prop} {b : Nat → Int32} {n p f s : Nat} (hb : J 1 = b) (hn : n ≤ 1600) (hp : p ≤ n) (hR : RS b n p f s J) (h1 : isW b n p 2 → Q (nI 1) J) (h0 : ¬ isW b n p 2 → Q (nI 0) J) : C_X4_isWord_37_s2 e J L Q := by
  obtain ⟨k2, k3, k4, k5, k6, k7⟩ := hR
  have hsb := tS_b (b := b) hp
  have heb := tE_b (b := b) hp
  have hkl : tK b n p ≤ 4 := kAt_le _ _ _
  refine b_X4_isWord_37_s2 ?_
  rw [k3, k4, k5, pk_sub heb.1]
  refine ⟨fun hk => ⟨fun hl => ?_, fun hl => h0 (fun hw => hl ?_)⟩, fun hk => h0 (fun hw => hk (by rw [hw.1]))⟩
  · rw [nI_eq (by omega) (by decide)] at hk hl
    refine lp_up (n := 4) (S := Unit) (T := fun i _ => T_X4_isWord_37_s2_p28 e (nI i) J L Q) (fun i _ => ∀ i', i' < i → b (tS b n p + i') = xch 2 i') ?_ ?_ 0 () (Nat.zero_le _) (fun i' h => absurd h (Nat.not_lt_zero _))
    · intro i _ hi hv hnext
      refine b_X4_isWord_37_s2_p28 ?_
      rw [k4, nI_add, nI_add, nI_clamp (show i < _ from by omega), nI_clamp (by omega), hb]
      refine ⟨fun h => absurd ((nI_leI (by decide) (by omega)).mp h) (by omega), fun _ => ⟨vp_in_nI (by omega) (by decide), vp_in_nI (by omega) (by decide), fun he => hnext () (fun i' hi' => ?_), fun he => h0 (fun hw => he (hw.2.2 i hi))⟩⟩
      by_cases hii : i' = i
      · rw [hii]; exact he
      · exact hv i' (by omega)
    · intro _ hv
      refine b_X4_isWord_37_s2_p28 ⟨fun _ => h1 ⟨hk, hl, hv⟩, fun h => absurd (show nI 4 ≤ nI 4 from by decide) h⟩
  · rw [hw.2.1]
    rfl
theorem c_isW_3 {e : am_V} {J : Nat → Nat → Int32} {L : Nat → Nat → Int64} {Q : Int32 → (Nat → Nat → Int32) → Prop} {b : Nat → Int32} {n p f s : Nat} (hb : J 1 = b) (hn : n ≤ 1600) (hp : p ≤ n) (hR : RS b n p f s J) (h1 : isW b n p 3 → Q (nI 1) J) (h0 : ¬ isW b n p 3 → Q (nI 0) J) : C_X4_isWord_37_s3 e J L Q := by
  obtain ⟨k2, k3, k4, k5, k6, k7⟩ := hR
  have hsb := tS_b (b := b) hp
  have heb := tE_b (b := b) hp
  have hkl : tK b n p ≤ 4 := kAt_le _ _ _
  refine b_X4_isWord_37_s3 ?_
  rw [k3, k4, k5, pk_sub heb.1]
  refine ⟨fun hk => ⟨fun hl => ?_, fun hl => h0 (fun hw => hl ?_)⟩, fun hk => h0 (fun hw => hk (by rw [hw.1]))⟩
  · rw [nI_eq (by omega) (by decide)] at hk hl
    refine lp_up (n := 4) (S := Unit) (T := fun i _ => T_X4_isWord_37_s3_p28 e (nI i) J L Q) (fun i _ => ∀ i', i' < i → b (tS b n p + i') = xch 3 i') ?_ ?_ 0 () (Nat.zero_le _) (fun i' h => absurd h (Nat.not_lt_zero _))
    · intro i _ hi hv hnext
      refine b_X4_isWord_37_s3_p28 ?_
      rw [k4, nI_add, nI_add, nI_clamp (show i < _ from by omega), nI_clamp (by omega), hb]
      refine ⟨fun h => absurd ((nI_leI (by decide) (by omega)).mp h) (by omega), fun _ => ⟨vp_in_nI (by omega) (by decide), vp_in_nI (by omega) (by decide), fun he => hnext () (fun i' hi' => ?_), fun he => h0 (fun hw => he (hw.2.2 i hi))⟩⟩
      by_cases hii : i' = i
      · rw [hii]; exact he
      · exact hv i' (by omega)
    · intro _ hv
      refine b_X4_isWord_37_s3_p28 ⟨fun _ => h1 ⟨hk, hl, hv⟩, fun h => absurd (show nI 4 ≤ nI 4 from by decide) h⟩
  · rw [hw.2.1]
    rfl
theorem c_isW_4 {e : am_V} {J : Nat → Nat → Int32} {L : Nat → Nat → Int64} {Q : Int32 → (Nat → Nat → Int32) → Prop} {b : Nat → Int32} {n p f s : Nat} (hb : J 1 = b) (hn : n ≤ 1600) (hp : p ≤ n) (hR : RS b n p f s J) (h1 : isW b n p 4 → Q (nI 1) J) (h0 : ¬ isW b n p 4 → Q (nI 0) J) : C_X4_isWord_37_s4 e J L Q := by
  obtain ⟨k2, k3, k4, k5, k6, k7⟩ := hR
  have hsb := tS_b (b := b) hp
  have heb := tE_b (b := b) hp
  have hkl : tK b n p ≤ 4 := kAt_le _ _ _
  refine b_X4_isWord_37_s4 ?_
  rw [k3, k4, k5, pk_sub heb.1]
  refine ⟨fun hk => ⟨fun hl => ?_, fun hl => h0 (fun hw => hl ?_)⟩, fun hk => h0 (fun hw => hk (by rw [hw.1]))⟩
  · rw [nI_eq (by omega) (by decide)] at hk hl
    refine lp_up (n := 6) (S := Unit) (T := fun i _ => T_X4_isWord_37_s4_p28 e (nI i) J L Q) (fun i _ => ∀ i', i' < i → b (tS b n p + i') = xch 4 i') ?_ ?_ 0 () (Nat.zero_le _) (fun i' h => absurd h (Nat.not_lt_zero _))
    · intro i _ hi hv hnext
      refine b_X4_isWord_37_s4_p28 ?_
      rw [k4, nI_add, nI_add, nI_clamp (show i < _ from by omega), nI_clamp (by omega), hb]
      refine ⟨fun h => absurd ((nI_leI (by decide) (by omega)).mp h) (by omega), fun _ => ⟨vp_in_nI (by omega) (by decide), vp_in_nI (by omega) (by decide), fun he => hnext () (fun i' hi' => ?_), fun he => h0 (fun hw => he (hw.2.2 i hi))⟩⟩
      by_cases hii : i' = i
      · rw [hii]; exact he
      · exact hv i' (by omega)
    · intro _ hv
      refine b_X4_isWord_37_s4_p28 ⟨fun _ => h1 ⟨hk, hl, hv⟩, fun h => absurd (show nI 6 ≤ nI 6 from by decide) h⟩
  · rw [hw.2.1]
    rfl
theorem c_isW_5 {e : am_V} {J : Nat → Nat → Int32} {L : Nat → Nat → Int64} {Q : Int32 → (Nat → Nat → Int32) → Prop} {b : Nat → Int32} {n p f s : Nat} (hb : J 1 = b) (hn : n ≤ 1600) (hp : p ≤ n) (hR : RS b n p f s J) (h1 : isW b n p 5 → Q (nI 1) J) (h0 : ¬ isW b n p 5 → Q (nI 0) J) : C_X4_isWord_37_s5 e J L Q := by
  obtain ⟨k2, k3, k4, k5, k6, k7⟩ := hR
  have hsb := tS_b (b := b) hp
  have heb := tE_b (b := b) hp
  have hkl : tK b n p ≤ 4 := kAt_le _ _ _
  refine b_X4_isWord_37_s5 ?_
  rw [k3, k4, k5, pk_sub heb.1]
  refine ⟨fun hk => ⟨fun hl => ?_, fun hl => h0 (fun hw => hl ?_)⟩, fun hk => h0 (fun hw => hk (by rw [hw.1]))⟩
  · rw [nI_eq (by omega) (by decide)] at hk hl
    refine lp_up (n := 4) (S := Unit) (T := fun i _ => T_X4_isWord_37_s5_p28 e (nI i) J L Q) (fun i _ => ∀ i', i' < i → b (tS b n p + i') = xch 5 i') ?_ ?_ 0 () (Nat.zero_le _) (fun i' h => absurd h (Nat.not_lt_zero _))
    · intro i _ hi hv hnext
      refine b_X4_isWord_37_s5_p28 ?_
      rw [k4, nI_add, nI_add, nI_clamp (show i < _ from by omega), nI_clamp (by omega), hb]
      refine ⟨fun h => absurd ((nI_leI (by decide) (by omega)).mp h) (by omega), fun _ => ⟨vp_in_nI (by omega) (by decide), vp_in_nI (by omega) (by decide), fun he => hnext () (fun i' hi' => ?_), fun he => h0 (fun hw => he (hw.2.2 i hi))⟩⟩
      by_cases hii : i' = i
      · rw [hii]; exact he
      · exact hv i' (by omega)
    · intro _ hv
      refine b_X4_isWord_37_s5_p28 ⟨fun _ => h1 ⟨hk, hl, hv⟩, fun h => absurd (show nI 4 ≤ nI 4 from by decide) h⟩
  · rw [hw.2.1]
    rfl
theorem c_isW_6 {e : am_V} {J : Nat → Nat → Int32} {L : Nat → Nat → Int64} {Q : Int32 → (Nat → Nat → Int32) → Prop} {b : Nat → Int32} {n p f s : Nat} (hb : J 1 = b) (hn : n ≤ 1600) (hp : p ≤ n) (hR : RS b n p f s J) (h1 : isW b n p 6 → Q (nI 1) J) (h0 : ¬ isW b n p 6 → Q (nI 0) J) : C_X4_isWord_37_s6 e J L Q := by
  obtain ⟨k2, k3, k4, k5, k6, k7⟩ := hR
  have hsb := tS_b (b := b) hp
  have heb := tE_b (b := b) hp
  have hkl : tK b n p ≤ 4 := kAt_le _ _ _
  refine b_X4_isWord_37_s6 ?_
  rw [k3, k4, k5, pk_sub heb.1]
  refine ⟨fun hk => ⟨fun hl => ?_, fun hl => h0 (fun hw => hl ?_)⟩, fun hk => h0 (fun hw => hk (by rw [hw.1]))⟩
  · rw [nI_eq (by omega) (by decide)] at hk hl
    refine lp_up (n := 6) (S := Unit) (T := fun i _ => T_X4_isWord_37_s6_p28 e (nI i) J L Q) (fun i _ => ∀ i', i' < i → b (tS b n p + i') = xch 6 i') ?_ ?_ 0 () (Nat.zero_le _) (fun i' h => absurd h (Nat.not_lt_zero _))
    · intro i _ hi hv hnext
      refine b_X4_isWord_37_s6_p28 ?_
      rw [k4, nI_add, nI_add, nI_clamp (show i < _ from by omega), nI_clamp (by omega), hb]
      refine ⟨fun h => absurd ((nI_leI (by decide) (by omega)).mp h) (by omega), fun _ => ⟨vp_in_nI (by omega) (by decide), vp_in_nI (by omega) (by decide), fun he => hnext () (fun i' hi' => ?_), fun he => h0 (fun hw => he (hw.2.2 i hi))⟩⟩
      by_cases hii : i' = i
      · rw [hii]; exact he
      · exact hv i' (by omega)
    · intro _ hv
      refine b_X4_isWord_37_s6_p28 ⟨fun _ => h1 ⟨hk, hl, hv⟩, fun h => absurd (show nI 6 ≤ nI 6 from by decide) h⟩
  · rw [hw.2.1]
    rfl
theorem c_isW_7 {e : am_V} {J : Nat → Nat → Int32} {L : Nat → Nat → Int64} {Q : Int32 → (Nat → Nat → Int32) → Prop} {b : Nat → Int32} {n p f s : Nat} (hb : J 1 = b) (hn : n ≤ 1600) (hp : p ≤ n) (hR : RS b n p f s J) (h1 : isW b n p 7 → Q (nI 1) J) (h0 : ¬ isW b n p 7 → Q (nI 0) J) : C_X4_isWord_37_s7 e J L Q := by
  obtain ⟨k2, k3, k4, k5, k6, k7⟩ := hR
  have hsb := tS_b (b := b) hp
  have heb := tE_b (b := b) hp
  have hkl : tK b n p ≤ 4 := kAt_le _ _ _
  refine b_X4_isWord_37_s7 ?_
  rw [k3, k4, k5, pk_sub heb.1]
  refine ⟨fun hk => ⟨fun hl => ?_, fun hl => h0 (fun hw => hl ?_)⟩, fun hk => h0 (fun hw => hk (by rw [hw.1]))⟩
  · rw [nI_eq (by omega) (by decide)] at hk hl
    refine lp_up (n := 2) (S := Unit) (T := fun i _ => T_X4_isWord_37_s7_p28 e (nI i) J L Q) (fun i _ => ∀ i', i' < i → b (tS b n p + i') = xch 7 i') ?_ ?_ 0 () (Nat.zero_le _) (fun i' h => absurd h (Nat.not_lt_zero _))
    · intro i _ hi hv hnext
      refine b_X4_isWord_37_s7_p28 ?_
      rw [k4, nI_add, nI_add, nI_clamp (show i < _ from by omega), nI_clamp (by omega), hb]
      refine ⟨fun h => absurd ((nI_leI (by decide) (by omega)).mp h) (by omega), fun _ => ⟨vp_in_nI (by omega) (by decide), vp_in_nI (by omega) (by decide), fun he => hnext () (fun i' hi' => ?_), fun he => h0 (fun hw => he (hw.2.2 i hi))⟩⟩
      by_cases hii : i' = i
      · rw [hii]; exact he
      · exact hv i' (by omega)
    · intro _ hv
      refine b_X4_isWord_37_s7_p28 ⟨fun _ => h1 ⟨hk, hl, hv⟩, fun h => absurd (show nI 2 ≤ nI 2 from by decide) h⟩
  · rw [hw.2.1]
    rfl
