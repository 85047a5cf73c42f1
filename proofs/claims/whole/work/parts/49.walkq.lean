/-! walks asked: walks, sure, ends, wide -/
theorem crl (v : Int32) (N : Nat) (hN : N < 2147483648) : v < nI 0 ∨ (¬ v < nI 0 ∧ ¬ v ≤ nI N) ∨ ∃ n, n ≤ N ∧ v = nI n := by
  by_cases h : v < nI 0
  · exact Or.inl h
  · by_cases h2 : v ≤ nI N
    · obtain ⟨j, hj, rfl⟩ := nI_of h
      rw [nI_leI hj hN] at h2
      exact Or.inr (Or.inr ⟨j, h2, rfl⟩)
    · exact Or.inr (Or.inl ⟨h, h2⟩)
theorem kl8 {x : Int32} : (8 : Int64) < x.toInt64 ↔ ¬ x ≤ nI 8 := klit 8 (by decide)
theorem kl9 {x : Int32} : (9 : Int64) < x.toInt64 ↔ ¬ x ≤ nI 9 := klit 9 (by decide)
theorem kl20 {x : Int32} : (20 : Int64) < x.toInt64 ↔ ¬ x ≤ nI 20 := klit 20 (by decide)
theorem kl23 {x : Int32} : (23 : Int64) < x.toInt64 ↔ ¬ x ≤ nI 23 := klit 23 (by decide)
theorem c_endBits {e : am_V} {I : Nat → Nat → Int32} {L : Nat → Nat → Int64} {Q : Int32 → (Nat → Nat → Int32) → Prop} {c : Nat → Nat} (h63 : ∀ y, y < 8 → I 63 y = nI (c y)) (hb : ∀ y, y < 8 → c y < 2147483648) (hQ : Q (nI (bts (fun y => decide (0 < c y)) 8)) I) : C_X8_endBits_62 e I L Q := by
  refine b_X8_endBits_62 ?_
  refine lp_up (n := 8) (S := Nat) (T := fun y s => T_X8_endBits_62_p4 e (nI s) (nI y) I L Q) (fun y s => s = bts (fun y => decide (0 < c y)) y) ?_ ?_ 0 0 (Nat.zero_le _) rfl
  · intro y s hy hi hnext
    have q1 : (8 ≤ y) = False := eq_false (by omega)
    have e63 := h63 y hy
    have bd := hb y hy
    have sh := ksh y hy
    refine b_X8_endBits_62_p4 ?_
    simp (disch := omega) only [pk_mul, nI_add, ksub, kdv, kd8, kd64, kd2, kd3, km8, km64, kt8, ke8, ke64, kcl, kin, kle, klt, keq, up_s, up_n, up_u, true_and, and_true, false_implies, true_implies, not_false_eq_true, not_true_eq_false, q1, e63, sh, fa_or]
    refine ⟨fun h => hnext s ?_, fun h => hnext (s ||| 2 ^ y) ?_⟩
    · rw [bts_s, if_neg (by rw [decide_eq_true_eq]; omega), Nat.or_zero]
      exact hi
    · rw [bts_s, if_pos (by rw [decide_eq_true_eq]; omega), hi]
  · intro s hi
    have q1 : (8 ≤ 8) = True := eq_true (Nat.le_refl _)
    refine b_X8_endBits_62_p4 ?_
    simp (disch := omega) only [pk_mul, nI_add, ksub, kdv, kd8, kd64, kd2, kd3, km8, km64, kt8, ke8, ke64, kcl, kin, kle, klt, keq, up_s, up_n, up_u, true_and, and_true, false_implies, true_implies, not_false_eq_true, not_true_eq_false, q1]
    rw [hi]
    exact hQ
theorem c_sumW {e : am_V} {I : Nat → Nat → Int32} {L : Nat → Nat → Int64} {Q : Int32 → (Nat → Nat → Int32) → Prop} {c : Nat → Nat} (h63 : ∀ y, y < 8 → I 63 y = nI (c y)) (hQ : Q (nI (sm c 8)) I) : C_X8_sum_62 e I L Q := by
  refine b_X8_sum_62 ?_
  refine lp_up (n := 8) (S := Nat) (T := fun y s => T_X8_sum_62_p4 e (nI s) (nI y) I L Q) (fun y s => s = sm c y) ?_ ?_ 0 0 (Nat.zero_le _) rfl
  · intro y s hy hi hnext
    have q1 : (8 ≤ y) = False := eq_false (by omega)
    have e63 := h63 y hy
    refine b_X8_sum_62_p4 ?_
    simp (disch := omega) only [pk_mul, nI_add, ksub, kdv, kd8, kd64, kd2, kd3, km8, km64, kt8, ke8, ke64, kcl, kin, kle, klt, keq, up_s, up_n, up_u, true_and, and_true, false_implies, true_implies, not_false_eq_true, not_true_eq_false, q1, e63]
    refine hnext _ ?_
    show s + c y = sm c y + c y
    rw [hi]
  · intro s hi
    have q1 : (8 ≤ 8) = True := eq_true (Nat.le_refl _)
    refine b_X8_sum_62_p4 ?_
    simp (disch := omega) only [pk_mul, nI_add, ksub, kdv, kd8, kd64, kd2, kd3, km8, km64, kt8, ke8, ke64, kcl, kin, kle, klt, keq, up_s, up_n, up_u, true_and, and_true, false_implies, true_implies, not_false_eq_true, not_true_eq_false, q1]
    rw [hi]
    exact hQ
theorem wq_sm {l : List (Nat × Nat)} (h : ∀ q, q ∈ l → q.1 < 8) : sm (fun y => (wq l y).length) 8 = l.length := by
  induction l with
  | nil => exact sm_0 (fun k _ => rfl)
  | cons q l ih =>
    have h1 := ih (fun q' hq' => h q' (List.mem_cons_of_mem _ hq'))
    have h8 := h q (List.mem_cons_self ..)
    have h2 : ∀ y, (wq (q :: l) y).length = (wq l y).length + (if q.1 = y then 1 else 0) := by
      intro y
      unfold wq
      by_cases he : q.1 = y
      · rw [List.filter_cons_of_pos (by simp [he]), if_pos he]; rfl
      · rw [List.filter_cons_of_neg (by simp [he]), if_neg he]; rfl
    rw [sm_c (fun y _ => h2 y), sm_add, h1, sm_1 h8 (fun k _ hne => if_neg (fun h => hne h.symm)), if_pos rfl]
    rfl
theorem wq_le (l : List (Nat × Nat)) (y : Nat) : (wq l y).length ≤ l.length := List.length_filter_le ..
def eb (b : Nat) (l : List (Nat × Nat)) : Nat := l.foldl (fun b q => b ||| 2 ^ q.1) b
theorem enr_e (l : List (Nat × Nat)) : ∀ b, enr (nI b) l = nI (eb b l) := by
  induction l with
  | nil => intro b; rfl
  | cons q l ih =>
    intro b
    show enr (nI b ||| nI (2 ^ q.1)) l = nI (eb (b ||| 2 ^ q.1) l)
    rw [fa_or]
    exact ih _
theorem eb_t (l : List (Nat × Nat)) : ∀ b y, (eb b l).testBit y = true ↔ b.testBit y = true ∨ ∃ q, q ∈ l ∧ q.1 = y := by
  induction l with
  | nil =>
    intro b y
    exact ⟨fun h => Or.inl h, fun h => h.elim id (fun ⟨q, hq, _⟩ => by cases hq)⟩
  | cons q l ih =>
    intro b y
    show (eb (b ||| 2 ^ q.1) l).testBit y = true ↔ _
    rw [ih, Nat.testBit_or, Bool.or_eq_true, Nat.testBit_two_pow, decide_eq_true_eq]
    constructor
    · rintro ((h | h) | ⟨q', h1, h2⟩)
      · exact Or.inl h
      · exact Or.inr ⟨q, List.mem_cons_self .., h⟩
      · exact Or.inr ⟨q', List.mem_cons_of_mem _ h1, h2⟩
    · rintro (h | ⟨q', h1, h2⟩)
      · exact Or.inl (Or.inl h)
      · rcases List.mem_cons.mp h1 with h3 | h3
        · rw [h3] at h2; exact Or.inl (Or.inr h2)
        · exact Or.inr ⟨q', h3, h2⟩
theorem eb_b {l : List (Nat × Nat)} (h : ∀ q, q ∈ l → q.1 < 8) : eb 0 l = bts (fun y => decide (0 < (wq l y).length)) 8 := by
  refine bts_u (fun y => ?_)
  rw [Bool.eq_iff_iff, eb_t, Bool.and_eq_true, decide_eq_true_eq, decide_eq_true_eq]
  constructor
  · rintro (h1 | ⟨q, h1, h2⟩)
    · rw [Nat.zero_testBit] at h1; cases h1
    · refine ⟨by have := h q h1; omega, List.length_pos_of_mem (a := q) ?_⟩
      unfold wq
      rw [List.mem_filter]
      exact ⟨h1, by simp [h2]⟩
  · rintro ⟨_, h1⟩
    obtain ⟨q, hq⟩ := List.exists_mem_of_length_pos h1
    unfold wq at hq
    rw [List.mem_filter] at hq
    exact Or.inr ⟨q, hq.1, by simpa using hq.2⟩
theorem and256 : ∀ p, p < 256 → (-1 : Int32) &&& nI p = nI p ∧ nI 255 &&& nI p = nI p := by decide +kernel
theorem comv_e {l : List (Nat × Nat)} (h : ∀ q, q ∈ l → q.2 < 256) (h0 : 0 < l.length) : comv (-1 : Int32) l = comv (nI 255) l := by
  cases l with
  | nil => exact absurd h0 (Nat.lt_irrefl _)
  | cons q l =>
    obtain ⟨h1, h2⟩ := and256 q.2 (h q (List.mem_cons_self ..))
    show comv ((-1 : Int32) &&& nI q.2) l = comv (nI 255 &&& nI q.2) l
    rw [h1, h2]
theorem wkM_n (l : List (Nat × Nat)) : wkM (-1 : Int32) l = l := by
  unfold wkM
  rw [List.filter_eq_self]
  intro q _
  rw [decide_eq_true rfl, Bool.true_or]
theorem wkM_y {l : List (Nat × Nat)} {y : Nat} (h : ∀ q, q ∈ l → q.1 < 8) (hy : y < 8) : wkM (nI y) l = wq l y := by
  unfold wkM wq
  refine List.filter_congr (fun q hq => ?_)
  have h1 := h q hq
  have h2 : ¬ nI y = (-1 : Int32) := fun h => by
    rw [km1 (by omega)] at h
    exact h
  rw [decide_eq_false h2, Bool.false_or, Bool.eq_iff_iff, decide_eq_true_eq, keq (by omega) (by omega)]
  simp
/-- the reference's walks, from where it lays them -/
theorem c_lays {e : am_V} {L : Nat → Nat → Int64} {t : tw} {E : Int32} {n x : Nat} {nw : Nat → Nat} {J : Nat → Nat → Int32} {Q : (Nat → Nat → Int32) → Prop} (hk : tok t) (hn : n ≤ 9) (hx : x < 8) (hM : MT t J) (hb : ∀ k, k < 512 → nw k ≤ 1000) (hz : ∀ k, k < 512 → tB t k = false → nw k = 0) (hF : ∀ k, k < 512 → J 87 k = nI (nw k)) (hQ : ∀ K, fr [87, 96] [40, 41, 42, 43] J K → K 73 41 = nI (wkM E (wkA (t 1) n nw x)).length → K 73 42 = comv (nI 255) (wkM E (wkA (t 1) n nw x)) → K 73 43 = enr (nI 0) (wkM E (wkA (t 1) n nw x)) → Q K) : C_X11_walks_73 e 30 (nI 0) (nI n) (va_up (va_up (va_up (va_up (va_up J 96 (va_up (J 96) 0 (nI x))) 73 (va_up (J 73) 40 E)) 73 (va_up (va_up (J 73) 40 E) 41 (nI 0))) 73 (va_up (va_up (va_up (J 73) 40 E) 41 (nI 0)) 42 (nI 255))) 73 (va_up (va_up (va_up (va_up (J 73) 40 E) 41 (nI 0)) 42 (nI 255)) 43 (nI 0))) L Q := by
  rw [up_u, up_u, up_u]
  generalize hJ0 : va_up (va_up J 96 (va_up (J 96) 0 (nI x))) 73 (va_up (va_up (va_up (va_up (J 73) 40 E) 41 (nI 0)) 42 (nI 255)) 43 (nI 0)) = J0
  have f0 : fr [87, 96] [40, 41, 42, 43] J J0 := by
    have f1 : fr [87, 96] [40, 41, 42, 43] J (va_up J 96 (va_up (J 96) 0 (nI x))) := fr_up (fr_refl _ _ _) rfl
    have f2 := fr_73 (k := 43) (v := nI 0) (fr_73 (k := 42) (v := nI 255) (fr_73 (k := 41) (v := nI 0) (fr_73 (k := 40) (v := E) f1 rfl) rfl) rfl) rfl
    rw [up_u, up_u, up_u] at f2
    rw [← hJ0]
    exact f2
  refine c_mwalk0 (t := t) (E := E) (x := x) (nw := nw) hk hn hx (fr_MT f0 hM rfl) hb hz (fun k hk5 => ?_) ?_ ?_ (fun K fK hU => ?_)
  · rw [← hJ0]; exact hF k hk5
  · rw [← hJ0]; rfl
  · rw [← hJ0]; rfl
  · obtain ⟨u1, u2, u3⟩ := hU
    have j41 : J0 73 41 = nI 0 := by rw [← hJ0]; rfl
    have j42 : J0 73 42 = nI 255 := by rw [← hJ0]; rfl
    have j43 : J0 73 43 = nI 0 := by rw [← hJ0]; rfl
    rw [j41, nI_add, Nat.zero_add] at u1
    rw [j42] at u2
    rw [j43] at u3
    exact hQ K (fr_trans f0 (fr_mono fK rfl rfl)) u1 u2 u3
theorem q_walks {e : am_V} {I : Nat → Nat → Int32} {L : Nat → Nat → Int64} {t : tw} {Q : Int32 → Int32 → (Nat → Nat → Int32) → Prop} {v1 : Int32} {v2 : Int32} {v3 : Int32} (hC : CT t I) (hM : MT t I) (hk : tok t) (hQ : ∀ r J, fr SC FC I J → Q r r J) : C_X10_walks_0 e v1 v2 v3 I L (fun r J => C_X11_walks__73 e v1 v2 v3 J L (fun r' K => Q r r' K)) := by
  have hC2 := hC
  have hM2 := hM
  have hk2 := hk
  obtain ⟨c0, c1, c2, c3, c4, c5, c6, c7, c8, cS, cD, cN, cA, cT, cM, cR, cF, cO, cH, cL⟩ := hC
  obtain ⟨m0, m1, m2, m3, m4, m5, mS, mU, mL, mF, mO, mH, mA, mK⟩ := hM
  obtain ⟨o0, oT, oZ, oY, oD, o9, oN, o28, oB, oX, oE, oF, oA, oH, oU, oV⟩ := hk
  have f0 : fr SC FC I (va_up I 73 (va_up (I 73) 0 (nI 0))) := fr_73 (fr_refl _ _ _) rfl
  rcases crs v2 (t 0 0) (by omega) with ay | ⟨ay, dy⟩ | ⟨y, hy, rfl⟩
  · (refine b_X10_walks_0 ?_; simp (disch := omega) only [pk_mul, nI_add, ksub, kdv, kd8, kd64, kd2, kd3, km8, km64, kt8, ke8, ke64, kcl, kin, kle, klt, keq, up_s, up_n, up_u, true_and, and_true, false_implies, true_implies, not_false_eq_true, not_true_eq_false, ay, c0, knl]; refine b_X11_walks__73 ?_; simp (disch := omega) only [pk_mul, nI_add, ksub, kdv, kd8, kd64, kd2, kd3, km8, km64, kt8, ke8, ke64, kcl, kin, kle, klt, keq, up_s, up_n, up_u, true_and, and_true, false_implies, true_implies, not_false_eq_true, not_true_eq_false, ay, m1, kzl, kcz, knl, kl8]; repeat' (first | exact hQ _ _ f0 | refine And.intro (fun _ => ?_) (fun _ => ?_)))
  · (refine b_X10_walks_0 ?_; simp (disch := omega) only [pk_mul, nI_add, ksub, kdv, kd8, kd64, kd2, kd3, km8, km64, kt8, ke8, ke64, kcl, kin, kle, klt, keq, up_s, up_n, up_u, true_and, and_true, false_implies, true_implies, not_false_eq_true, not_true_eq_false, ay, dy, c0, knl]; refine b_X11_walks__73 ?_; simp (disch := omega) only [pk_mul, nI_add, ksub, kdv, kd8, kd64, kd2, kd3, km8, km64, kt8, ke8, ke64, kcl, kin, kle, klt, keq, up_s, up_n, up_u, true_and, and_true, false_implies, true_implies, not_false_eq_true, not_true_eq_false, ay, dy, m1, kzl, kcz, knl, kl8]; repeat' (first | exact hQ _ _ f0 | refine And.intro (fun _ => ?_) (fun _ => ?_)))
  · have gy : (t 0 0 ≤ y) = False := eq_false (by omega)
    rcases crs v1 (t 0 0) (by omega) with ax | ⟨ax, dx⟩ | ⟨x, hx, rfl⟩
    · (refine b_X10_walks_0 ?_; simp (disch := omega) only [pk_mul, nI_add, ksub, kdv, kd8, kd64, kd2, kd3, km8, km64, kt8, ke8, ke64, kcl, kin, kle, klt, keq, up_s, up_n, up_u, true_and, and_true, false_implies, true_implies, not_false_eq_true, not_true_eq_false, gy, ax, c0, knl]; refine b_X11_walks__73 ?_; simp (disch := omega) only [pk_mul, nI_add, ksub, kdv, kd8, kd64, kd2, kd3, km8, km64, kt8, ke8, ke64, kcl, kin, kle, klt, keq, up_s, up_n, up_u, true_and, and_true, false_implies, true_implies, not_false_eq_true, not_true_eq_false, gy, ax, m1, kzl, kcz, knl, kl8]; repeat' (first | exact hQ _ _ f0 | refine And.intro (fun _ => ?_) (fun _ => ?_)))
    · (refine b_X10_walks_0 ?_; simp (disch := omega) only [pk_mul, nI_add, ksub, kdv, kd8, kd64, kd2, kd3, km8, km64, kt8, ke8, ke64, kcl, kin, kle, klt, keq, up_s, up_n, up_u, true_and, and_true, false_implies, true_implies, not_false_eq_true, not_true_eq_false, gy, ax, dx, c0, knl]; refine b_X11_walks__73 ?_; simp (disch := omega) only [pk_mul, nI_add, ksub, kdv, kd8, kd64, kd2, kd3, km8, km64, kt8, ke8, ke64, kcl, kin, kle, klt, keq, up_s, up_n, up_u, true_and, and_true, false_implies, true_implies, not_false_eq_true, not_true_eq_false, gy, ax, dx, m1, kzl, kcz, knl, kl8]; repeat' (first | exact hQ _ _ f0 | refine And.intro (fun _ => ?_) (fun _ => ?_)))
    · have gx : (t 0 0 ≤ x) = False := eq_false (by omega)
      rcases crl v3 8 (by decide) with an | ⟨an, dn⟩ | ⟨n, hn, rfl⟩
      · (refine b_X10_walks_0 ?_; simp (disch := omega) only [pk_mul, nI_add, ksub, kdv, kd8, kd64, kd2, kd3, km8, km64, kt8, ke8, ke64, kcl, kin, kle, klt, keq, up_s, up_n, up_u, true_and, and_true, false_implies, true_implies, not_false_eq_true, not_true_eq_false, gy, gx, an, c0, knl]; refine b_X11_walks__73 ?_; simp (disch := omega) only [pk_mul, nI_add, ksub, kdv, kd8, kd64, kd2, kd3, km8, km64, kt8, ke8, ke64, kcl, kin, kle, klt, keq, up_s, up_n, up_u, true_and, and_true, false_implies, true_implies, not_false_eq_true, not_true_eq_false, gy, gx, an, m1, kzl, kcz, knl, kl8]; repeat' (first | exact hQ _ _ f0 | refine And.intro (fun _ => ?_) (fun _ => ?_)))
      · (refine b_X10_walks_0 ?_; simp (disch := omega) only [pk_mul, nI_add, ksub, kdv, kd8, kd64, kd2, kd3, km8, km64, kt8, ke8, ke64, kcl, kin, kle, klt, keq, up_s, up_n, up_u, true_and, and_true, false_implies, true_implies, not_false_eq_true, not_true_eq_false, gy, gx, an, dn, c0, knl]; refine b_X11_walks__73 ?_; simp (disch := omega) only [pk_mul, nI_add, ksub, kdv, kd8, kd64, kd2, kd3, km8, km64, kt8, ke8, ke64, kcl, kin, kle, klt, keq, up_s, up_n, up_u, true_and, and_true, false_implies, true_implies, not_false_eq_true, not_true_eq_false, gy, gx, an, dn, m1, kzl, kcz, knl, kl8]; repeat' (first | exact hQ _ _ f0 | refine And.intro (fun _ => ?_) (fun _ => ?_)))
      · have gn : (n ≤ 8) = True := eq_true (by omega)
        obtain ⟨l1, l2⟩ := wkA_m (t 1) n (t 3) x (by omega) (by omega)
        refine b_X10_walks_0 ?_
        simp (disch := omega) only [pk_mul, nI_add, ksub, kdv, kd8, kd64, kd2, kd3, km8, km64, kt8, ke8, ke64, kcl, kin, kle, klt, keq, up_s, up_n, up_u, true_and, and_true, false_implies, true_implies, not_false_eq_true, not_true_eq_false, c0, knl, gy, gx, gn]
        have fI : fr [2, 63, 64] [] I (va_up I 2 (va_cpy (I 10) (I 2) 0 0 512)) := fr_up (fr_refl _ _ _) rfl
        refine c_walkAll (nw := t 3) (fr_CT fI hC2 rfl) hk2 (by omega) (by omega) (tok_nw hk2) oX (fun k hk5 hp5 => ?_) (fun J fJ0 j1 j2 => ?_)
        · show va_cpy (I 10) (I 2) 0 0 512 k = _
          rw [cpy0 hk5]; exact cR k hk5 hp5
        have fJ := fr_trans fI fJ0
        have MJ := fr_MT fJ hM2 rfl
        have m1J := MJ.2.1
        have mLJ := MJ.2.2.2.2.2.2.2.2.1
        have hm : ∀ Q2 : Int32 → (Nat → Nat → Int32) → Prop, (∀ K, fr SC FC I K → K 73 41 = nI (wkM (nI y) (wkA (t 1) n (t 3) x)).length → K 73 42 = comv (nI 255) (wkM (nI y) (wkA (t 1) n (t 3) x)) → K 73 43 = enr (nI 0) (wkM (nI y) (wkA (t 1) n (t 3) x)) → Q2 (K 73 41) K) → C_X11_walks__73 e (nI x) (nI y) (nI n) J L Q2 := by
          intro Q2 hQ2
          refine b_X11_walks__73 ?_
          simp (disch := omega) only [pk_mul, nI_add, ksub, kdv, kd8, kd64, kd2, kd3, km8, km64, kt8, ke8, ke64, kcl, kin, kle, klt, keq, up_s, up_n, up_u, true_and, and_true, false_implies, true_implies, not_false_eq_true, not_true_eq_false, m1J, kzl, kcz, kl8, knl, gy, gx, gn]
          refine c_asLeft (lf := t 3) mLJ (fun F2 hF2 => ?_)
          have hrun := c_lays (e := e) (L := L) (t := t) (E := nI y) (n := n) (x := x) (nw := t 3) (J := va_up (va_up J 73 (va_up (J 73) 0 (nI 0))) 87 F2) (Q := fun I5 => Q2 (I5 73 41) I5) hk2 (by omega) (by omega) (show MT t (va_up (va_up J 73 (va_up (J 73) 0 (nI 0))) 87 F2) from fr_MT (fr_up (S := [87]) (F := []) (fr_refl _ _ _) rfl) (MT_0 MJ) rfl) (tok_nw hk2) oX hF2 (fun K fK k1 k2 k3 => ?_)
          · simp (disch := omega) only [pk_mul, nI_add, ksub, kdv, kd8, kd64, kd2, kd3, km8, km64, kt8, ke8, ke64, kcl, kin, kle, klt, keq, up_s, up_n, up_u, true_and, and_true, false_implies, true_implies, not_false_eq_true, not_true_eq_false] at hrun
            simp (disch := omega) only [pk_mul, nI_add, ksub, kdv, kd8, kd64, kd2, kd3, km8, km64, kt8, ke8, ke64, kcl, kin, kle, klt, keq, up_s, up_n, up_u, true_and, and_true, false_implies, true_implies, not_false_eq_true, not_true_eq_false]
            exact hrun
          · have fK3 := fr_q1 fJ (fr_trans (fr_up (S := [87, 96]) (F := [40, 41, 42, 43]) (a := 87) (f := F2) (fr_refl _ _ _) rfl) fK) rfl rfl rfl rfl
            have h9 := hQ2 K fK3 k1 k2 k3
            exact h9
        have hwy := wkM_y (l := wkA (t 1) n (t 3) x) (y := y) (fun q hq => (l1 q hq).1) (by omega)
        have hle := wq_le (wkA (t 1) n (t 3) x) y
        have e1 := j1 y (by omega)
        simp (disch := omega) only [pk_mul, nI_add, ksub, kdv, kd8, kd64, kd2, kd3, km8, km64, kt8, ke8, ke64, kcl, kin, kle, klt, keq, up_s, up_n, up_u, true_and, and_true, false_implies, true_implies, not_false_eq_true, not_true_eq_false, e1]
        refine hm _ (fun K fK k1 k2 k3 => ?_)
        rw [k1, hwy]
        exact hQ _ _ fK
theorem q_sure {e : am_V} {I : Nat → Nat → Int32} {L : Nat → Nat → Int64} {t : tw} {Q : Int32 → Int32 → (Nat → Nat → Int32) → Prop} {v1 : Int32} {v2 : Int32} {v3 : Int32} (hC : CT t I) (hM : MT t I) (hk : tok t) (hQ : ∀ r J, fr SC FC I J → Q r r J) : C_X10_sure_0 e v1 v2 v3 I L (fun r J => C_X11_sure_73 e v1 v2 v3 J L (fun r' K => Q r r' K)) := by
  have hC2 := hC
  have hM2 := hM
  have hk2 := hk
  obtain ⟨c0, c1, c2, c3, c4, c5, c6, c7, c8, cS, cD, cN, cA, cT, cM, cR, cF, cO, cH, cL⟩ := hC
  obtain ⟨m0, m1, m2, m3, m4, m5, mS, mU, mL, mF, mO, mH, mA, mK⟩ := hM
  obtain ⟨o0, oT, oZ, oY, oD, o9, oN, o28, oB, oX, oE, oF, oA, oH, oU, oV⟩ := hk
  have f0 : fr SC FC I (va_up I 73 (va_up (I 73) 0 (nI 0))) := fr_73 (fr_refl _ _ _) rfl
  rcases crs v2 (t 0 0) (by omega) with ay | ⟨ay, dy⟩ | ⟨y, hy, rfl⟩
  · (refine b_X10_sure_0 ?_; simp (disch := omega) only [pk_mul, nI_add, ksub, kdv, kd8, kd64, kd2, kd3, km8, km64, kt8, ke8, ke64, kcl, kin, kle, klt, keq, up_s, up_n, up_u, true_and, and_true, false_implies, true_implies, not_false_eq_true, not_true_eq_false, ay, c0, knl]; refine b_X11_sure_73 ?_; simp (disch := omega) only [pk_mul, nI_add, ksub, kdv, kd8, kd64, kd2, kd3, km8, km64, kt8, ke8, ke64, kcl, kin, kle, klt, keq, up_s, up_n, up_u, true_and, and_true, false_implies, true_implies, not_false_eq_true, not_true_eq_false, ay, m1, kzl, kcz, knl, kl8]; repeat' (first | exact hQ _ _ f0 | refine And.intro (fun _ => ?_) (fun _ => ?_)))
  · (refine b_X10_sure_0 ?_; simp (disch := omega) only [pk_mul, nI_add, ksub, kdv, kd8, kd64, kd2, kd3, km8, km64, kt8, ke8, ke64, kcl, kin, kle, klt, keq, up_s, up_n, up_u, true_and, and_true, false_implies, true_implies, not_false_eq_true, not_true_eq_false, ay, dy, c0, knl]; refine b_X11_sure_73 ?_; simp (disch := omega) only [pk_mul, nI_add, ksub, kdv, kd8, kd64, kd2, kd3, km8, km64, kt8, ke8, ke64, kcl, kin, kle, klt, keq, up_s, up_n, up_u, true_and, and_true, false_implies, true_implies, not_false_eq_true, not_true_eq_false, ay, dy, m1, kzl, kcz, knl, kl8]; repeat' (first | exact hQ _ _ f0 | refine And.intro (fun _ => ?_) (fun _ => ?_)))
  · have gy : (t 0 0 ≤ y) = False := eq_false (by omega)
    rcases crs v1 (t 0 0) (by omega) with ax | ⟨ax, dx⟩ | ⟨x, hx, rfl⟩
    · (refine b_X10_sure_0 ?_; simp (disch := omega) only [pk_mul, nI_add, ksub, kdv, kd8, kd64, kd2, kd3, km8, km64, kt8, ke8, ke64, kcl, kin, kle, klt, keq, up_s, up_n, up_u, true_and, and_true, false_implies, true_implies, not_false_eq_true, not_true_eq_false, gy, ax, c0, knl]; refine b_X11_sure_73 ?_; simp (disch := omega) only [pk_mul, nI_add, ksub, kdv, kd8, kd64, kd2, kd3, km8, km64, kt8, ke8, ke64, kcl, kin, kle, klt, keq, up_s, up_n, up_u, true_and, and_true, false_implies, true_implies, not_false_eq_true, not_true_eq_false, gy, ax, m1, kzl, kcz, knl, kl8]; repeat' (first | exact hQ _ _ f0 | refine And.intro (fun _ => ?_) (fun _ => ?_)))
    · (refine b_X10_sure_0 ?_; simp (disch := omega) only [pk_mul, nI_add, ksub, kdv, kd8, kd64, kd2, kd3, km8, km64, kt8, ke8, ke64, kcl, kin, kle, klt, keq, up_s, up_n, up_u, true_and, and_true, false_implies, true_implies, not_false_eq_true, not_true_eq_false, gy, ax, dx, c0, knl]; refine b_X11_sure_73 ?_; simp (disch := omega) only [pk_mul, nI_add, ksub, kdv, kd8, kd64, kd2, kd3, km8, km64, kt8, ke8, ke64, kcl, kin, kle, klt, keq, up_s, up_n, up_u, true_and, and_true, false_implies, true_implies, not_false_eq_true, not_true_eq_false, gy, ax, dx, m1, kzl, kcz, knl, kl8]; repeat' (first | exact hQ _ _ f0 | refine And.intro (fun _ => ?_) (fun _ => ?_)))
    · have gx : (t 0 0 ≤ x) = False := eq_false (by omega)
      rcases crl v3 8 (by decide) with an | ⟨an, dn⟩ | ⟨n, hn, rfl⟩
      · (refine b_X10_sure_0 ?_; simp (disch := omega) only [pk_mul, nI_add, ksub, kdv, kd8, kd64, kd2, kd3, km8, km64, kt8, ke8, ke64, kcl, kin, kle, klt, keq, up_s, up_n, up_u, true_and, and_true, false_implies, true_implies, not_false_eq_true, not_true_eq_false, gy, gx, an, c0, knl]; refine b_X11_sure_73 ?_; simp (disch := omega) only [pk_mul, nI_add, ksub, kdv, kd8, kd64, kd2, kd3, km8, km64, kt8, ke8, ke64, kcl, kin, kle, klt, keq, up_s, up_n, up_u, true_and, and_true, false_implies, true_implies, not_false_eq_true, not_true_eq_false, gy, gx, an, m1, kzl, kcz, knl, kl8]; repeat' (first | exact hQ _ _ f0 | refine And.intro (fun _ => ?_) (fun _ => ?_)))
      · (refine b_X10_sure_0 ?_; simp (disch := omega) only [pk_mul, nI_add, ksub, kdv, kd8, kd64, kd2, kd3, km8, km64, kt8, ke8, ke64, kcl, kin, kle, klt, keq, up_s, up_n, up_u, true_and, and_true, false_implies, true_implies, not_false_eq_true, not_true_eq_false, gy, gx, an, dn, c0, knl]; refine b_X11_sure_73 ?_; simp (disch := omega) only [pk_mul, nI_add, ksub, kdv, kd8, kd64, kd2, kd3, km8, km64, kt8, ke8, ke64, kcl, kin, kle, klt, keq, up_s, up_n, up_u, true_and, and_true, false_implies, true_implies, not_false_eq_true, not_true_eq_false, gy, gx, an, dn, m1, kzl, kcz, knl, kl8]; repeat' (first | exact hQ _ _ f0 | refine And.intro (fun _ => ?_) (fun _ => ?_)))
      · have gn : (n ≤ 8) = True := eq_true (by omega)
        obtain ⟨l1, l2⟩ := wkA_m (t 1) n (t 3) x (by omega) (by omega)
        refine b_X10_sure_0 ?_
        simp (disch := omega) only [pk_mul, nI_add, ksub, kdv, kd8, kd64, kd2, kd3, km8, km64, kt8, ke8, ke64, kcl, kin, kle, klt, keq, up_s, up_n, up_u, true_and, and_true, false_implies, true_implies, not_false_eq_true, not_true_eq_false, c0, knl, gy, gx, gn]
        have fI : fr [2, 63, 64] [] I (va_up I 2 (va_cpy (I 10) (I 2) 0 0 512)) := fr_up (fr_refl _ _ _) rfl
        refine c_walkAll (nw := t 3) (fr_CT fI hC2 rfl) hk2 (by omega) (by omega) (tok_nw hk2) oX (fun k hk5 hp5 => ?_) (fun J fJ0 j1 j2 => ?_)
        · show va_cpy (I 10) (I 2) 0 0 512 k = _
          rw [cpy0 hk5]; exact cR k hk5 hp5
        have fJ := fr_trans fI fJ0
        have MJ := fr_MT fJ hM2 rfl
        have m1J := MJ.2.1
        have mLJ := MJ.2.2.2.2.2.2.2.2.1
        have hm : ∀ Q2 : Int32 → (Nat → Nat → Int32) → Prop, (∀ K, fr SC FC I K → K 73 41 = nI (wkM (nI y) (wkA (t 1) n (t 3) x)).length → K 73 42 = comv (nI 255) (wkM (nI y) (wkA (t 1) n (t 3) x)) → K 73 43 = enr (nI 0) (wkM (nI y) (wkA (t 1) n (t 3) x)) → Q2 (if 0 < (wq (wkA (t 1) n (t 3) x) y).length then K 73 42 else nI 0) K) → C_X11_sure_73 e (nI x) (nI y) (nI n) J L Q2 := by
          intro Q2 hQ2
          refine b_X11_sure_73 ?_
          simp (disch := omega) only [pk_mul, nI_add, ksub, kdv, kd8, kd64, kd2, kd3, km8, km64, kt8, ke8, ke64, kcl, kin, kle, klt, keq, up_s, up_n, up_u, true_and, and_true, false_implies, true_implies, not_false_eq_true, not_true_eq_false, m1J, kzl, kcz, kl8, knl, gy, gx, gn]
          refine c_asLeft (lf := t 3) mLJ (fun F2 hF2 => ?_)
          have hrun := c_lays (e := e) (L := L) (t := t) (E := nI y) (n := n) (x := x) (nw := t 3) (J := va_up (va_up J 73 (va_up (J 73) 0 (nI 0))) 87 F2) (Q := fun I5 => ((I5 73 41 = nI 0 → Q2 (nI 0) I5) ∧ (¬ I5 73 41 = nI 0 → Q2 (I5 73 42) I5))) hk2 (by omega) (by omega) (show MT t (va_up (va_up J 73 (va_up (J 73) 0 (nI 0))) 87 F2) from fr_MT (fr_up (S := [87]) (F := []) (fr_refl _ _ _) rfl) (MT_0 MJ) rfl) (tok_nw hk2) oX hF2 (fun K fK k1 k2 k3 => ?_)
          · simp (disch := omega) only [pk_mul, nI_add, ksub, kdv, kd8, kd64, kd2, kd3, km8, km64, kt8, ke8, ke64, kcl, kin, kle, klt, keq, up_s, up_n, up_u, true_and, and_true, false_implies, true_implies, not_false_eq_true, not_true_eq_false] at hrun
            simp (disch := omega) only [pk_mul, nI_add, ksub, kdv, kd8, kd64, kd2, kd3, km8, km64, kt8, ke8, ke64, kcl, kin, kle, klt, keq, up_s, up_n, up_u, true_and, and_true, false_implies, true_implies, not_false_eq_true, not_true_eq_false]
            exact hrun
          · have fK3 := fr_q1 fJ (fr_trans (fr_up (S := [87, 96]) (F := [40, 41, 42, 43]) (a := 87) (f := F2) (fr_refl _ _ _) rfl) fK) rfl rfl rfl rfl
            have h9 := hQ2 K fK3 k1 k2 k3
            have hwy := wkM_y (l := wkA (t 1) n (t 3) x) (y := y) (fun q hq => (l1 q hq).1) (by omega)
            have hle := wq_le (wkA (t 1) n (t 3) x) y
            rw [k1, hwy, keq (by omega) (by decide)]
            by_cases hp : 0 < (wq (wkA (t 1) n (t 3) x) y).length
            · rw [if_pos hp] at h9
              exact ⟨fun h => by omega, fun _ => h9⟩
            · rw [if_neg hp] at h9
              exact ⟨fun _ => h9, fun h => by omega⟩
        have hwy := wkM_y (l := wkA (t 1) n (t 3) x) (y := y) (fun q hq => (l1 q hq).1) (by omega)
        have hle := wq_le (wkA (t 1) n (t 3) x) y
        have e1 := j1 y (by omega)
        have e2 := j2 y (by omega)
        simp (disch := omega) only [pk_mul, nI_add, ksub, kdv, kd8, kd64, kd2, kd3, km8, km64, kt8, ke8, ke64, kcl, kin, kle, klt, keq, up_s, up_n, up_u, true_and, and_true, false_implies, true_implies, not_false_eq_true, not_true_eq_false, e1]
        refine ⟨fun h => ?_, fun h => ?_⟩
        · refine hm _ (fun K fK k1 k2 k3 => ?_)
          rw [if_neg (by omega)]
          exact hQ _ _ fK
        · simp (disch := omega) only [pk_mul, nI_add, ksub, kdv, kd8, kd64, kd2, kd3, km8, km64, kt8, ke8, ke64, kcl, kin, kle, klt, keq, up_s, up_n, up_u, true_and, and_true, false_implies, true_implies, not_false_eq_true, not_true_eq_false, e2]
          refine hm _ (fun K fK k1 k2 k3 => ?_)
          rw [if_pos (by omega), k2, hwy, comv_e (l := wq (wkA (t 1) n (t 3) x) y) (fun q hq => (l1 q (List.mem_filter.mp hq).1).2) (by omega)]
          exact hQ _ _ fK
theorem q_ends {e : am_V} {I : Nat → Nat → Int32} {L : Nat → Nat → Int64} {t : tw} {Q : Int32 → Int32 → (Nat → Nat → Int32) → Prop} {v1 : Int32} {v2 : Int32} (hC : CT t I) (hM : MT t I) (hk : tok t) (hQ : ∀ r J, fr SC FC I J → Q r r J) : C_X10_ends_0 e v1 v2 I L (fun r J => C_X11_ends__73 e v1 v2 J L (fun r' K => Q r r' K)) := by
  have hC2 := hC
  have hM2 := hM
  have hk2 := hk
  obtain ⟨c0, c1, c2, c3, c4, c5, c6, c7, c8, cS, cD, cN, cA, cT, cM, cR, cF, cO, cH, cL⟩ := hC
  obtain ⟨m0, m1, m2, m3, m4, m5, mS, mU, mL, mF, mO, mH, mA, mK⟩ := hM
  obtain ⟨o0, oT, oZ, oY, oD, o9, oN, o28, oB, oX, oE, oF, oA, oH, oU, oV⟩ := hk
  have f0 : fr SC FC I (va_up I 73 (va_up (I 73) 0 (nI 0))) := fr_73 (fr_refl _ _ _) rfl
  rcases crs v1 (t 0 0) (by omega) with ax | ⟨ax, dx⟩ | ⟨x, hx, rfl⟩
  · (refine b_X10_ends_0 ?_; simp (disch := omega) only [pk_mul, nI_add, ksub, kdv, kd8, kd64, kd2, kd3, km8, km64, kt8, ke8, ke64, kcl, kin, kle, klt, keq, up_s, up_n, up_u, true_and, and_true, false_implies, true_implies, not_false_eq_true, not_true_eq_false, ax, c0, knl]; refine b_X11_ends__73 ?_; simp (disch := omega) only [pk_mul, nI_add, ksub, kdv, kd8, kd64, kd2, kd3, km8, km64, kt8, ke8, ke64, kcl, kin, kle, klt, keq, up_s, up_n, up_u, true_and, and_true, false_implies, true_implies, not_false_eq_true, not_true_eq_false, ax, m1, kzl, kcz, knl, kl8]; repeat' (first | exact hQ _ _ f0 | refine And.intro (fun _ => ?_) (fun _ => ?_)))
  · (refine b_X10_ends_0 ?_; simp (disch := omega) only [pk_mul, nI_add, ksub, kdv, kd8, kd64, kd2, kd3, km8, km64, kt8, ke8, ke64, kcl, kin, kle, klt, keq, up_s, up_n, up_u, true_and, and_true, false_implies, true_implies, not_false_eq_true, not_true_eq_false, ax, dx, c0, knl]; refine b_X11_ends__73 ?_; simp (disch := omega) only [pk_mul, nI_add, ksub, kdv, kd8, kd64, kd2, kd3, km8, km64, kt8, ke8, ke64, kcl, kin, kle, klt, keq, up_s, up_n, up_u, true_and, and_true, false_implies, true_implies, not_false_eq_true, not_true_eq_false, ax, dx, m1, kzl, kcz, knl, kl8]; repeat' (first | exact hQ _ _ f0 | refine And.intro (fun _ => ?_) (fun _ => ?_)))
  · have gx : (t 0 0 ≤ x) = False := eq_false (by omega)
    rcases crl v2 8 (by decide) with an | ⟨an, dn⟩ | ⟨n, hn, rfl⟩
    · (refine b_X10_ends_0 ?_; simp (disch := omega) only [pk_mul, nI_add, ksub, kdv, kd8, kd64, kd2, kd3, km8, km64, kt8, ke8, ke64, kcl, kin, kle, klt, keq, up_s, up_n, up_u, true_and, and_true, false_implies, true_implies, not_false_eq_true, not_true_eq_false, gx, an, c0, knl]; refine b_X11_ends__73 ?_; simp (disch := omega) only [pk_mul, nI_add, ksub, kdv, kd8, kd64, kd2, kd3, km8, km64, kt8, ke8, ke64, kcl, kin, kle, klt, keq, up_s, up_n, up_u, true_and, and_true, false_implies, true_implies, not_false_eq_true, not_true_eq_false, gx, an, m1, kzl, kcz, knl, kl8]; repeat' (first | exact hQ _ _ f0 | refine And.intro (fun _ => ?_) (fun _ => ?_)))
    · (refine b_X10_ends_0 ?_; simp (disch := omega) only [pk_mul, nI_add, ksub, kdv, kd8, kd64, kd2, kd3, km8, km64, kt8, ke8, ke64, kcl, kin, kle, klt, keq, up_s, up_n, up_u, true_and, and_true, false_implies, true_implies, not_false_eq_true, not_true_eq_false, gx, an, dn, c0, knl]; refine b_X11_ends__73 ?_; simp (disch := omega) only [pk_mul, nI_add, ksub, kdv, kd8, kd64, kd2, kd3, km8, km64, kt8, ke8, ke64, kcl, kin, kle, klt, keq, up_s, up_n, up_u, true_and, and_true, false_implies, true_implies, not_false_eq_true, not_true_eq_false, gx, an, dn, m1, kzl, kcz, knl, kl8]; repeat' (first | exact hQ _ _ f0 | refine And.intro (fun _ => ?_) (fun _ => ?_)))
    · have gn : (n ≤ 8) = True := eq_true (by omega)
      obtain ⟨l1, l2⟩ := wkA_m (t 1) n (t 3) x (by omega) (by omega)
      refine b_X10_ends_0 ?_
      simp (disch := omega) only [pk_mul, nI_add, ksub, kdv, kd8, kd64, kd2, kd3, km8, km64, kt8, ke8, ke64, kcl, kin, kle, klt, keq, up_s, up_n, up_u, true_and, and_true, false_implies, true_implies, not_false_eq_true, not_true_eq_false, c0, knl, gx, gn]
      have fI : fr [2, 63, 64] [] I (va_up I 2 (va_cpy (I 10) (I 2) 0 0 512)) := fr_up (fr_refl _ _ _) rfl
      refine c_walkAll (nw := t 3) (fr_CT fI hC2 rfl) hk2 (by omega) (by omega) (tok_nw hk2) oX (fun k hk5 hp5 => ?_) (fun J fJ0 j1 j2 => ?_)
      · show va_cpy (I 10) (I 2) 0 0 512 k = _
        rw [cpy0 hk5]; exact cR k hk5 hp5
      have fJ := fr_trans fI fJ0
      have MJ := fr_MT fJ hM2 rfl
      have m1J := MJ.2.1
      have mLJ := MJ.2.2.2.2.2.2.2.2.1
      have hm : ∀ Q2 : Int32 → (Nat → Nat → Int32) → Prop, (∀ K, fr SC FC I K → K 73 41 = nI (wkM (-1 : Int32) (wkA (t 1) n (t 3) x)).length → K 73 42 = comv (nI 255) (wkM (-1 : Int32) (wkA (t 1) n (t 3) x)) → K 73 43 = enr (nI 0) (wkM (-1 : Int32) (wkA (t 1) n (t 3) x)) → Q2 (K 73 43) K) → C_X11_ends__73 e (nI x) (nI n) J L Q2 := by
        intro Q2 hQ2
        refine b_X11_ends__73 ?_
        simp (disch := omega) only [pk_mul, nI_add, ksub, kdv, kd8, kd64, kd2, kd3, km8, km64, kt8, ke8, ke64, kcl, kin, kle, klt, keq, up_s, up_n, up_u, true_and, and_true, false_implies, true_implies, not_false_eq_true, not_true_eq_false, m1J, kzl, kcz, kl8, knl, gx, gn]
        refine c_asLeft (lf := t 3) mLJ (fun F2 hF2 => ?_)
        have hrun := c_lays (e := e) (L := L) (t := t) (E := (-1 : Int32)) (n := n) (x := x) (nw := t 3) (J := va_up (va_up J 73 (va_up (J 73) 0 (nI 0))) 87 F2) (Q := fun I5 => Q2 (I5 73 43) I5) hk2 (by omega) (by omega) (show MT t (va_up (va_up J 73 (va_up (J 73) 0 (nI 0))) 87 F2) from fr_MT (fr_up (S := [87]) (F := []) (fr_refl _ _ _) rfl) (MT_0 MJ) rfl) (tok_nw hk2) oX hF2 (fun K fK k1 k2 k3 => ?_)
        · simp (disch := omega) only [pk_mul, nI_add, ksub, kdv, kd8, kd64, kd2, kd3, km8, km64, kt8, ke8, ke64, kcl, kin, kle, klt, keq, up_s, up_n, up_u, true_and, and_true, false_implies, true_implies, not_false_eq_true, not_true_eq_false] at hrun
          simp (disch := omega) only [pk_mul, nI_add, ksub, kdv, kd8, kd64, kd2, kd3, km8, km64, kt8, ke8, ke64, kcl, kin, kle, klt, keq, up_s, up_n, up_u, true_and, and_true, false_implies, true_implies, not_false_eq_true, not_true_eq_false]
          exact hrun
        · have fK3 := fr_q1 fJ (fr_trans (fr_up (S := [87, 96]) (F := [40, 41, 42, 43]) (a := 87) (f := F2) (fr_refl _ _ _) rfl) fK) rfl rfl rfl rfl
          have h9 := hQ2 K fK3 k1 k2 k3
          exact h9
      refine c_endBits (c := fun y => (wq (wkA (t 1) n (t 3) x) y).length) j1 (fun y _ => by have := wq_le (wkA (t 1) n (t 3) x) y; show (wq (wkA (t 1) n (t 3) x) y).length < _; omega) ?_
      refine hm _ (fun K fK k1 k2 k3 => ?_)
      rw [k3, wkM_n, enr_e, eb_b (fun q hq => (l1 q hq).1)]
      exact hQ _ _ fK
theorem q_wide {e : am_V} {I : Nat → Nat → Int32} {L : Nat → Nat → Int64} {t : tw} {Q : Int32 → Int32 → (Nat → Nat → Int32) → Prop} {v1 : Int32} {v2 : Int32} (hC : CT t I) (hM : MT t I) (hk : tok t) (hQ : ∀ r J, fr SC FC I J → Q r r J) : C_X10_wide_0 e v1 v2 I L (fun r J => C_X11_wide_73 e v1 v2 J L (fun r' K => Q r r' K)) := by
  have hC2 := hC
  have hM2 := hM
  have hk2 := hk
  obtain ⟨c0, c1, c2, c3, c4, c5, c6, c7, c8, cS, cD, cN, cA, cT, cM, cR, cF, cO, cH, cL⟩ := hC
  obtain ⟨m0, m1, m2, m3, m4, m5, mS, mU, mL, mF, mO, mH, mA, mK⟩ := hM
  obtain ⟨o0, oT, oZ, oY, oD, o9, oN, o28, oB, oX, oE, oF, oA, oH, oU, oV⟩ := hk
  have f0 : fr SC FC I (va_up I 73 (va_up (I 73) 0 (nI 0))) := fr_73 (fr_refl _ _ _) rfl
  rcases crs v1 (t 0 0) (by omega) with ax | ⟨ax, dx⟩ | ⟨x, hx, rfl⟩
  · (refine b_X10_wide_0 ?_; simp (disch := omega) only [pk_mul, nI_add, ksub, kdv, kd8, kd64, kd2, kd3, km8, km64, kt8, ke8, ke64, kcl, kin, kle, klt, keq, up_s, up_n, up_u, true_and, and_true, false_implies, true_implies, not_false_eq_true, not_true_eq_false, ax, c0, knl]; refine b_X11_wide_73 ?_; simp (disch := omega) only [pk_mul, nI_add, ksub, kdv, kd8, kd64, kd2, kd3, km8, km64, kt8, ke8, ke64, kcl, kin, kle, klt, keq, up_s, up_n, up_u, true_and, and_true, false_implies, true_implies, not_false_eq_true, not_true_eq_false, ax, m1, kzl, kcz, knl, kl8]; repeat' (first | exact hQ _ _ f0 | refine And.intro (fun _ => ?_) (fun _ => ?_)))
  · (refine b_X10_wide_0 ?_; simp (disch := omega) only [pk_mul, nI_add, ksub, kdv, kd8, kd64, kd2, kd3, km8, km64, kt8, ke8, ke64, kcl, kin, kle, klt, keq, up_s, up_n, up_u, true_and, and_true, false_implies, true_implies, not_false_eq_true, not_true_eq_false, ax, dx, c0, knl]; refine b_X11_wide_73 ?_; simp (disch := omega) only [pk_mul, nI_add, ksub, kdv, kd8, kd64, kd2, kd3, km8, km64, kt8, ke8, ke64, kcl, kin, kle, klt, keq, up_s, up_n, up_u, true_and, and_true, false_implies, true_implies, not_false_eq_true, not_true_eq_false, ax, dx, m1, kzl, kcz, knl, kl8]; repeat' (first | exact hQ _ _ f0 | refine And.intro (fun _ => ?_) (fun _ => ?_)))
  · have gx : (t 0 0 ≤ x) = False := eq_false (by omega)
    rcases crl v2 8 (by decide) with an | ⟨an, dn⟩ | ⟨n, hn, rfl⟩
    · (refine b_X10_wide_0 ?_; simp (disch := omega) only [pk_mul, nI_add, ksub, kdv, kd8, kd64, kd2, kd3, km8, km64, kt8, ke8, ke64, kcl, kin, kle, klt, keq, up_s, up_n, up_u, true_and, and_true, false_implies, true_implies, not_false_eq_true, not_true_eq_false, gx, an, c0, knl]; refine b_X11_wide_73 ?_; simp (disch := omega) only [pk_mul, nI_add, ksub, kdv, kd8, kd64, kd2, kd3, km8, km64, kt8, ke8, ke64, kcl, kin, kle, klt, keq, up_s, up_n, up_u, true_and, and_true, false_implies, true_implies, not_false_eq_true, not_true_eq_false, gx, an, m1, kzl, kcz, knl, kl8]; repeat' (first | exact hQ _ _ f0 | refine And.intro (fun _ => ?_) (fun _ => ?_)))
    · (refine b_X10_wide_0 ?_; simp (disch := omega) only [pk_mul, nI_add, ksub, kdv, kd8, kd64, kd2, kd3, km8, km64, kt8, ke8, ke64, kcl, kin, kle, klt, keq, up_s, up_n, up_u, true_and, and_true, false_implies, true_implies, not_false_eq_true, not_true_eq_false, gx, an, dn, c0, knl]; refine b_X11_wide_73 ?_; simp (disch := omega) only [pk_mul, nI_add, ksub, kdv, kd8, kd64, kd2, kd3, km8, km64, kt8, ke8, ke64, kcl, kin, kle, klt, keq, up_s, up_n, up_u, true_and, and_true, false_implies, true_implies, not_false_eq_true, not_true_eq_false, gx, an, dn, m1, kzl, kcz, knl, kl8]; repeat' (first | exact hQ _ _ f0 | refine And.intro (fun _ => ?_) (fun _ => ?_)))
    · have gn : (n ≤ 8) = True := eq_true (by omega)
      obtain ⟨l1, l2⟩ := wkA_m (t 1) n (t 3) x (by omega) (by omega)
      refine b_X10_wide_0 ?_
      simp (disch := omega) only [pk_mul, nI_add, ksub, kdv, kd8, kd64, kd2, kd3, km8, km64, kt8, ke8, ke64, kcl, kin, kle, klt, keq, up_s, up_n, up_u, true_and, and_true, false_implies, true_implies, not_false_eq_true, not_true_eq_false, c0, knl, gx, gn]
      have fI : fr [2, 63, 64] [] I (va_up I 2 (va_cpy (I 10) (I 2) 0 0 512)) := fr_up (fr_refl _ _ _) rfl
      refine c_walkAll (nw := t 3) (fr_CT fI hC2 rfl) hk2 (by omega) (by omega) (tok_nw hk2) oX (fun k hk5 hp5 => ?_) (fun J fJ0 j1 j2 => ?_)
      · show va_cpy (I 10) (I 2) 0 0 512 k = _
        rw [cpy0 hk5]; exact cR k hk5 hp5
      have fJ := fr_trans fI fJ0
      have MJ := fr_MT fJ hM2 rfl
      have m1J := MJ.2.1
      have mLJ := MJ.2.2.2.2.2.2.2.2.1
      have hm : ∀ Q2 : Int32 → (Nat → Nat → Int32) → Prop, (∀ K, fr SC FC I K → K 73 41 = nI (wkM (-1 : Int32) (wkA (t 1) n (t 3) x)).length → K 73 42 = comv (nI 255) (wkM (-1 : Int32) (wkA (t 1) n (t 3) x)) → K 73 43 = enr (nI 0) (wkM (-1 : Int32) (wkA (t 1) n (t 3) x)) → Q2 (K 73 41) K) → C_X11_wide_73 e (nI x) (nI n) J L Q2 := by
        intro Q2 hQ2
        refine b_X11_wide_73 ?_
        simp (disch := omega) only [pk_mul, nI_add, ksub, kdv, kd8, kd64, kd2, kd3, km8, km64, kt8, ke8, ke64, kcl, kin, kle, klt, keq, up_s, up_n, up_u, true_and, and_true, false_implies, true_implies, not_false_eq_true, not_true_eq_false, m1J, kzl, kcz, kl8, knl, gx, gn]
        refine c_asLeft (lf := t 3) mLJ (fun F2 hF2 => ?_)
        have hrun := c_lays (e := e) (L := L) (t := t) (E := (-1 : Int32)) (n := n) (x := x) (nw := t 3) (J := va_up (va_up J 73 (va_up (J 73) 0 (nI 0))) 87 F2) (Q := fun I5 => Q2 (I5 73 41) I5) hk2 (by omega) (by omega) (show MT t (va_up (va_up J 73 (va_up (J 73) 0 (nI 0))) 87 F2) from fr_MT (fr_up (S := [87]) (F := []) (fr_refl _ _ _) rfl) (MT_0 MJ) rfl) (tok_nw hk2) oX hF2 (fun K fK k1 k2 k3 => ?_)
        · simp (disch := omega) only [pk_mul, nI_add, ksub, kdv, kd8, kd64, kd2, kd3, km8, km64, kt8, ke8, ke64, kcl, kin, kle, klt, keq, up_s, up_n, up_u, true_and, and_true, false_implies, true_implies, not_false_eq_true, not_true_eq_false] at hrun
          simp (disch := omega) only [pk_mul, nI_add, ksub, kdv, kd8, kd64, kd2, kd3, km8, km64, kt8, ke8, ke64, kcl, kin, kle, klt, keq, up_s, up_n, up_u, true_and, and_true, false_implies, true_implies, not_false_eq_true, not_true_eq_false]
          exact hrun
        · have fK3 := fr_q1 fJ (fr_trans (fr_up (S := [87, 96]) (F := [40, 41, 42, 43]) (a := 87) (f := F2) (fr_refl _ _ _) rfl) fK) rfl rfl rfl rfl
          have h9 := hQ2 K fK3 k1 k2 k3
          exact h9
      refine c_sumW (c := fun y => (wq (wkA (t 1) n (t 3) x) y).length) j1 ?_
      refine hm _ (fun K fK k1 k2 k3 => ?_)
      rw [k1, wkM_n, wq_sm (fun q hq => (l1 q hq).1)]
      exact hQ _ _ fK
