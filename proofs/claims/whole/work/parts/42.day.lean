/-! a day of errands: their order by hours; the day on both sides -/
def hrf (t : tw) (n h : Nat) : List Nat := (List.range n).filter (fun j => decide (t 6 j = h))
def dlh (t : tw) (n : Nat) : Nat → List Nat
  | 0 => []
  | h + 1 => dlh t n h ++ hrf t n h
theorem hrf_s (t : tw) (n h : Nat) : hrf t (n + 1) h = hrf t n h ++ (if t 6 n = h then [n] else []) := by
  unfold hrf
  rw [List.range_succ, List.filter_append]
  by_cases he : t 6 n = h
  · simp [he]
  · simp [he]
theorem hrf_m {t : tw} {n h j : Nat} : j ∈ hrf t n h ↔ j < n ∧ t 6 j = h := by
  unfold hrf
  rw [List.mem_filter, List.mem_range, decide_eq_true_eq]
theorem dlh_m {t : tw} {n h j : Nat} : j ∈ dlh t n h ↔ j < n ∧ t 6 j < h := by
  induction h with
  | zero => exact ⟨(fun h => by cases h), (fun h => absurd h.2 (Nat.not_lt_zero _))⟩
  | succ h ih =>
    show j ∈ dlh t n h ++ hrf t n h ↔ _
    rw [List.mem_append, ih, hrf_m]
    omega
/-- one errand more: behind those of its hour -/
theorem dlh_s (t : tw) (n : Nat) : ∀ d, ∃ X, dlh t n (t 6 n + 1 + d) = dlh t n (t 6 n + 1) ++ X ∧ dlh t (n + 1) (t 6 n + 1 + d) = dlh t n (t 6 n + 1) ++ n :: X ∧ ∀ j, j ∈ X → t 6 n < t 6 j ∧ j < n := by
  have hlow : ∀ h, h ≤ t 6 n → dlh t (n + 1) h = dlh t n h := by
    intro h
    induction h with
    | zero => intro _; rfl
    | succ h ih =>
      intro hh
      show dlh t (n + 1) h ++ hrf t (n + 1) h = dlh t n h ++ hrf t n h
      rw [ih (by omega), hrf_s, if_neg (by omega), List.append_nil]
  intro d
  induction d with
  | zero =>
    refine ⟨[], ?_, ?_, fun j h => by cases h⟩
    · rw [List.append_nil]
    · show dlh t (n + 1) (t 6 n) ++ hrf t (n + 1) (t 6 n) = (dlh t n (t 6 n) ++ hrf t n (t 6 n)) ++ [n]
      rw [hlow _ (Nat.le_refl _), hrf_s, if_pos rfl, List.append_assoc]
  | succ d ih =>
    obtain ⟨X, h1, h2, h3⟩ := ih
    refine ⟨X ++ hrf t n (t 6 n + 1 + d), ?_, ?_, fun j hj => ?_⟩
    · show dlh t n (t 6 n + 1 + d) ++ hrf t n (t 6 n + 1 + d) = _
      rw [h1, List.append_assoc]
    · show dlh t (n + 1) (t 6 n + 1 + d) ++ hrf t (n + 1) (t 6 n + 1 + d) = _
      rw [h2, hrf_s, if_neg (by omega), List.append_nil, List.append_assoc]
      rfl
    · rcases List.mem_append.mp hj with h | h
      · exact h3 j h
      · have := hrf_m.mp h
        omega
theorem dl_sp (t : tw) (n : Nat) (h : t 6 n < 24) : ∃ X, dlh t n 24 = dlh t n (t 6 n + 1) ++ X ∧ dlh t (n + 1) 24 = dlh t n (t 6 n + 1) ++ n :: X ∧ ∀ j, j ∈ X → t 6 n < t 6 j ∧ j < n := by
  obtain ⟨X, h1, h2, h3⟩ := dlh_s t n (23 - t 6 n)
  rw [show t 6 n + 1 + (23 - t 6 n) = 24 from by omega] at h1 h2
  exact ⟨X, h1, h2, h3⟩
theorem dl_l {t : tw} {n : Nat} (h : ∀ j, j < n → t 6 j < 24) : (dlh t n 24).length = n ∧ (dlh t n 24).Nodup := by
  induction n with
  | zero =>
    have : ∀ h, dlh t 0 h = [] := by
      intro h
      induction h with
      | zero => rfl
      | succ h ih =>
        show dlh t 0 h ++ hrf t 0 h = []
        rw [ih]
        rfl
    rw [this]
    exact ⟨rfl, List.nodup_nil⟩
  | succ n ih =>
    obtain ⟨l1, l2⟩ := ih (fun j hj => h j (by omega))
    obtain ⟨X, h1, h2, h3⟩ := dl_sp t n (h n (by omega))
    rw [h1] at l1 l2
    rw [h2]
    refine ⟨?_, ?_⟩
    · rw [List.length_append, List.length_cons]
      rw [List.length_append] at l1
      omega
    · rw [List.perm_middle.nodup_iff, List.nodup_cons]
      refine ⟨fun hm => ?_, l2⟩
      rcases List.mem_append.mp hm with h5 | h5
      · have := dlh_m.mp h5
        omega
      · have := h3 n h5
        omega
theorem gd_l {l1 l2 : List Nat} {p : Nat} (h : p < l1.length) : (l1 ++ l2).getD p 0 = l1.getD p 0 := by
  rw [List.getD_eq_getElem?_getD, List.getD_eq_getElem?_getD, List.getElem?_append_left h]
theorem gd_r {l1 l2 : List Nat} {p : Nat} (h : l1.length ≤ p) : (l1 ++ l2).getD p 0 = l2.getD (p - l1.length) 0 := by
  rw [List.getD_eq_getElem?_getD, List.getD_eq_getElem?_getD, List.getElem?_append_right h]
theorem c_byHours {e : am_V} {I : Nat → Nat → Int32} {L : Nat → Nat → Int64} {Q : (Nat → Nat → Int32) → Prop} {t : tw} (hM : MT t I) (hk : tok t) (hQ : ∀ J, fr [93] [] I J → (∀ i, i < t 0 4 → J 93 i = nI ((dlh t (t 0 4) 24).getD i 0)) → Q J) : C_X11_byHours_73 e I L Q := by
  have hM2 := hM
  obtain ⟨m0, m1, m2, m3, m4, m5, mS, mU, mL, mF, mO, mH, mA, mK⟩ := hM
  obtain ⟨o0, oT, oZ, oY, oD, o9, oN, o28, oB, oX, oE, oF, oA, oH, oU, oV⟩ := hk
  refine b_X11_byHours_73 ?_
  have h0 : T_X11_byHours_73_p2 e (nI 0) (va_up I 93 (I 93)) L Q := by
    refine lp_up (n := t 0 4) (S := Nat → Int32) (T := fun j F => T_X11_byHours_73_p2 e (nI j) (va_up I 93 F) L Q) (fun j F => ∀ i, i < j → F i = nI ((dlh t j 24).getD i 0)) ?_ ?_ 0 (I 93) (Nat.zero_le _) (fun j h => absurd h (Nat.not_lt_zero _))
    · intro j F hj hi hnext
      have q1 : (t 0 4 ≤ j) = False := eq_false (by omega)
      obtain ⟨X, h1, h2, h3⟩ := dl_sp t j (oF j hj).2.2.2
      have hlen := (dl_l (t := t) (n := j) (fun j' hj' => (oF j' (by omega)).2.2.2)).1
      have hh := (oF j hj).2.2.2
      have e84j := mH j hj
      generalize hlo : dlh t j (t 6 j + 1) = lo at h1 h2
      have hlom : ∀ j', j' ∈ lo → t 6 j' ≤ t 6 j ∧ j' < j := by
        intro j' hj'
        rw [← hlo] at hj'
        have := dlh_m.mp hj'
        omega
      rw [h1] at hlen hi
      rw [List.length_append] at hlen
      refine b_X11_byHours_73_p2 ?_
      simp (disch := omega) only [pk_mul, nI_add, ksub, kdv, kd8, kd64, kd2, kd3, km8, km64, kt8, ke8, ke64, kcl, kin, kle, klt, keq, up_s, up_n, up_u, true_and, and_true, false_implies, true_implies, not_false_eq_true, not_true_eq_false, m4, q1]
      have hin : ∀ d i F, i = lo.length + d → i ≤ j → (∀ p, p < i → F p = nI ((lo ++ X).getD p 0)) → (∀ p, i ≤ p → p < j → F (p + 1) = nI ((lo ++ X).getD p 0)) → T_X11_byHours_73_p14 e (nI j) (nI i) (va_up I 93 F) L Q := by
        intro d
        induction d with
        | zero =>
          intro i F hd hij hF1 hF2
          have hfin : ∀ i', i' < j + 1 → va_up F i (nI j) i' = nI ((dlh t (j + 1) 24).getD i' 0) := by
            intro i' hi'
            rw [h2]
            rcases Nat.lt_trichotomy i' i with h | h | h
            · rw [up_n (by omega), gd_l (by omega), hF1 i' h, gd_l (by omega)]
            · rw [h, up_s, gd_r (by omega)]
              rw [show i - lo.length = 0 from by omega]
              rfl
            · rw [up_n (by omega), gd_r (by omega)]
              have h5 := hF2 (i' - 1) (by omega) (by omega)
              rw [show i' - 1 + 1 = i' from by omega, gd_r (by omega)] at h5
              rw [h5, show i' - lo.length = (i' - 1 - lo.length) + 1 from by omega]
              rfl
          refine b_X11_byHours_73_p14 ?_
          by_cases hz : i ≤ 0
          · have q2 := eq_true hz
            simp (disch := omega) only [pk_mul, nI_add, ksub, kdv, kd8, kd64, kd2, kd3, km8, km64, kt8, ke8, ke64, kcl, kin, kle, klt, keq, up_s, up_n, up_u, true_and, and_true, false_implies, true_implies, not_false_eq_true, not_true_eq_false, q2]
            exact hnext _ hfin
          · have q2 := eq_false hz
            have hel : lo.getD (i - 1) 0 ∈ lo := gd_mem (by omega)
            obtain ⟨u1, u2⟩ := hlom _ hel
            have e93 := hF1 (i - 1) (by omega)
            rw [gd_l (by omega)] at e93
            have e84 := mH (lo.getD (i - 1) 0) (by omega)
            generalize lo.getD (i - 1) 0 = y at u1 u2 e93 e84
            have hy := (oF y (by omega)).2.2.2
            have q3 : (t 6 y ≤ t 6 j) = True := eq_true u1
            simp (disch := omega) only [pk_mul, nI_add, ksub, kdv, kd8, kd64, kd2, kd3, km8, km64, kt8, ke8, ke64, kcl, kin, kle, klt, keq, up_s, up_n, up_u, true_and, and_true, false_implies, true_implies, not_false_eq_true, not_true_eq_false, q2, e93, e84, e84j, q3]
            exact hnext _ hfin
        | succ d ih =>
          intro i F hd hij hF1 hF2
          have hel : X.getD d 0 ∈ X := gd_mem (by omega)
          obtain ⟨u1, u2⟩ := h3 _ hel
          have e93 := hF1 (i - 1) (by omega)
          rw [gd_r (by omega), show i - 1 - lo.length = d from by omega] at e93
          have e84 := mH (X.getD d 0) (by omega)
          have hXd : (lo ++ X).getD (i - 1) 0 = X.getD d 0 := by rw [gd_r (by omega), show i - 1 - lo.length = d from by omega]
          generalize X.getD d 0 = y at u1 u2 e93 e84 hXd
          have hy := (oF y (by omega)).2.2.2
          have q2 : (i ≤ 0) = False := eq_false (by omega)
          have q3 : (t 6 y ≤ t 6 j) = False := eq_false (by omega)
          refine b_X11_byHours_73_p14 ?_
          simp (disch := omega) only [pk_mul, nI_add, ksub, kdv, kd8, kd64, kd2, kd3, km8, km64, kt8, ke8, ke64, kcl, kin, kle, klt, keq, up_s, up_n, up_u, true_and, and_true, false_implies, true_implies, not_false_eq_true, not_true_eq_false, q2, e93, e84, e84j, q3, kp1]
          refine ih (i - 1) _ (by omega) (by omega) (fun p hp => ?_) (fun p hp1 hp2 => ?_)
          · rw [up_n (by omega)]; exact hF1 p (by omega)
          · by_cases he : p = i - 1
            · rw [he, show i - 1 + 1 = i from by omega, up_s, hXd]
            · rw [up_n (by omega)]; exact hF2 p (by omega) hp2
      exact hin (j - lo.length) j F (by omega) (Nat.le_refl _) hi (fun p h1 h2 => by omega)
    · intro F hi
      have q1 : (t 0 4 ≤ t 0 4) = True := eq_true (Nat.le_refl _)
      refine b_X11_byHours_73_p2 ?_
      simp (disch := omega) only [pk_mul, nI_add, ksub, kdv, kd8, kd64, kd2, kd3, km8, km64, kt8, ke8, ke64, kcl, kin, kle, klt, keq, up_s, up_n, up_u, true_and, and_true, false_implies, true_implies, not_false_eq_true, not_true_eq_false, m4, q1]
      exact hQ _ (fr_up (fr_refl _ _ _) rfl) hi
  rw [up_id] at h0
  exact h0
/-- a day's state: uses, how many went, their length, the first that failed, what each went -/
abbrev dst : Type := (Nat → Nat) × Nat × Nat × Int32 × (Nat → Int32)
noncomputable def dyF (t : tw) (but : Int32) (s : dst) (j : Nat) : dst := if nI j = but then s else if wC (t 1) (tcf s.1 0) (t 5 j) (t 4 j) < 100000000 then (spd (fun v => v - 1) s.1 (wR (t 1) (tcf s.1 0) (t 5 j) (t 4 j)) (wL (t 1) (tcf s.1 0) (t 5 j) (t 4 j) - 2), s.2.1 + 1, s.2.2.1 + wC (t 1) (tcf s.1 0) (t 5 j) (t 4 j) % 1000000 / 100, s.2.2.2.1, va_up s.2.2.2.2 j (nI (wC (t 1) (tcf s.1 0) (t 5 j) (t 4 j) % 1000000 / 100))) else (s.1, s.2.1, s.2.2.1, if s.2.2.2.1 = (-1 : Int32) then nI j else s.2.2.2.1, va_up s.2.2.2.2 j (-1 : Int32))
def dy0 (t : tw) : dst := (t 3, 0, 0, (-1 : Int32), fun _ => 0)
noncomputable def dyL (t : tw) (but : Int32) (l : List Nat) : dst := l.foldl (dyF t but) (dy0 t)
theorem dyL_a (t : tw) (but : Int32) (l : List Nat) (j : Nat) : dyL t but (l ++ [j]) = dyF t but (dyL t but l) j := by
  unfold dyL
  rw [List.foldl_append]
  rfl
theorem tk_a {l : List Nat} {i : Nat} (h : i < l.length) : l.take (i + 1) = l.take i ++ [l.getD i 0] := by
  rw [List.take_add_one, List.getElem?_eq_getElem h, List.getD_eq_getElem?_getD, List.getElem?_eq_getElem h]
  rfl
theorem dyF_b {t : tw} {but : Int32} {s : dst} {j : Nat} (h : ∀ k, k < 512 → s.1 k ≤ 9) : ∀ k, k < 512 → (dyF t but s j).1 k ≤ 9 := by
  unfold dyF
  split
  · exact h
  · split
    · exact spd_b (f := fun v => v - 1) h (fun v hv => by show v - 1 ≤ _; omega)
    · exact h
theorem dyF_z {t : tw} {but : Int32} {s : dst} {j : Nat} (h : ∀ k, k < 512 → tB t k = false → s.1 k = 0) : ∀ k, k < 512 → tB t k = false → (dyF t but s j).1 k = 0 := by
  unfold dyF
  split
  · exact h
  · split
    · intro k hk5 hp
      have h1 := h k hk5 hp
      show spd (fun v => v - 1) s.1 _ _ k = 0
      unfold spd
      rw [h1]
      split <;> rfl
    · exact h
theorem dyL_b {t : tw} (hk : tok t) (but : Int32) (l : List Nat) : (∀ k, k < 512 → (dyL t but l).1 k ≤ 9) ∧ ∀ k, k < 512 → tB t k = false → (dyL t but l).1 k = 0 := by
  have key : ∀ (l : List Nat) (s : dst), ((∀ k, k < 512 → s.1 k ≤ 9) ∧ ∀ k, k < 512 → tB t k = false → s.1 k = 0) → ((∀ k, k < 512 → (l.foldl (dyF t but) s).1 k ≤ 9) ∧ ∀ k, k < 512 → tB t k = false → (l.foldl (dyF t but) s).1 k = 0) := by
    intro l
    induction l with
    | nil => intro s h; exact h
    | cons j l ih => intro s h; exact ih _ ⟨dyF_b h.1, dyF_z h.2⟩
  obtain ⟨o0, oT, oZ, oY, oD, o9, oN, o28, oB, oX, oE, oF, oA, oH, oU, oV⟩ := hk
  exact key l _ ⟨fun k h => (oB k h).2, oX⟩
theorem dyF_n {t : tw} {but : Int32} {s : dst} {j : Nat} (hk : tok t) (hj : j < t 0 4) : (dyF t but s j).2.1 ≤ s.2.1 + 1 ∧ (dyF t but s j).2.2.1 ≤ s.2.2.1 + 252 := by
  obtain ⟨o0, oT, oZ, oY, oD, o9, oN, o28, oB, oX, oE, oF, oA, oH, oU, oV⟩ := hk
  have hS := tok_sf (by exact ⟨o0, oT, oZ, oY, oD, o9, oN, o28, oB, oX, oE, oF, oA, oH, oU, oV⟩) s.1 0
  have h8 := (oF j hj).1
  unfold dyF
  split
  · omega
  · split
    · rename_i h1 h2
      obtain ⟨b, l, s', e1, e2, e3, e4, e5⟩ := wC_d hS (show t 4 j < 8 from by omega) h2
      show s.2.1 + 1 ≤ _ ∧ s.2.2.1 + wC (t 1) (tcf s.1 0) (t 5 j) (t 4 j) % 1000000 / 100 ≤ _
      omega
    · show s.2.1 ≤ _ ∧ s.2.2.1 ≤ _
      omega
theorem dyL_n {t : tw} (hk : tok t) (but : Int32) (l : List Nat) (hl : ∀ j, j ∈ l → j < t 0 4) : (dyL t but l).2.1 ≤ l.length ∧ (dyL t but l).2.2.1 ≤ 252 * l.length := by
  have key : ∀ (l : List Nat) (s : dst), (∀ j, j ∈ l → j < t 0 4) → (l.foldl (dyF t but) s).2.1 ≤ s.2.1 + l.length ∧ (l.foldl (dyF t but) s).2.2.1 ≤ s.2.2.1 + 252 * l.length := by
    intro l
    induction l with
    | nil => intro s _; exact ⟨Nat.le_refl _, Nat.le_refl _⟩
    | cons j l ih =>
      intro s h
      have h1 := ih (dyF t but s j) (fun j' hj' => h j' (List.mem_cons_of_mem _ hj'))
      have h2 := dyF_n (but := but) (s := s) hk (h j (List.mem_cons_self ..))
      rw [List.foldl_cons, List.length_cons]
      omega
  have h1 := key l (dy0 t) hl
  have h2 : (dy0 t).2.1 = 0 := rfl
  have h3 : (dy0 t).2.2.1 = 0 := rfl
  rw [h2, h3] at h1
  unfold dyL
  omega
theorem c_goesDay {e : am_V} {I : Nat → Nat → Int32} {L : Nat → Nat → Int64} {Q : (Nat → Nat → Int32) → Prop} {t : tw} {but : Int32} {l : List Nat} (hM : MT t I) (hk : tok t) (h93 : ∀ i, i < t 0 4 → I 93 i = nI (l.getD i 0)) (hl : l.length = t 0 4) (hlm : ∀ j, j ∈ l → j < t 0 4)
    (hQ : ∀ J, fr [87, 88, 89, 94] [27, 28, 34, 35] I J → (∀ k, k < 512 → J 87 k = nI ((dyL t but l).1 k)) → J 73 34 = nI (dyL t but l).2.1 → J 73 35 = nI (dyL t but l).2.2.1 → (∀ j, j ∈ l → nI j ≠ but → J 94 j = (dyL t but l).2.2.2.2 j) → Q J) : C_X11_goesDay_73 e but I L Q := by
  have hM2 := hM
  have hk2 := hk
  obtain ⟨m0, m1, m2, m3, m4, m5, mS, mU, mL, mF, mO, mH, mA, mK⟩ := hM
  obtain ⟨o0, oT, oZ, oY, oD, o9, oN, o28, oB, oX, oE, oF, oA, oH, oU, oV⟩ := hk
  refine b_X11_goesDay_73 (c_asLeft mL (fun F0 hF0 => ?_))
  have f0 : fr [87, 88, 89, 94] [27, 28, 34, 35] I (va_up I 87 F0) := fr_up (fr_refl _ _ _) rfl
  have f1 : fr [87, 88, 89, 94] [27, 28, 34, 35] I (va_up (va_up (va_up I 87 F0) 73 (va_up (va_up I 87 F0 73) 34 (nI 0))) 73 (va_up (va_up (va_up I 87 F0 73) 34 (nI 0)) 35 (nI 0))) := by
    have f2 := fr_73 (k := 35) (v := nI 0) (fr_73 (k := 34) (v := nI 0) f0 rfl) rfl
    exact f2
  refine lp_up (n := t 0 4) (S := Nat → Nat → Int32) (T := fun i J => T_X11_goesDay_73_p16 e but (nI i) J L Q) (fun i J => fr [87, 88, 89, 94] [27, 28, 34, 35] I J ∧ (∀ k, k < 512 → J 87 k = nI ((dyL t but (l.take i)).1 k)) ∧ J 73 34 = nI (dyL t but (l.take i)).2.1 ∧ J 73 35 = nI (dyL t but (l.take i)).2.2.1 ∧ ∀ j, j ∈ l.take i → nI j ≠ but → J 94 j = (dyL t but (l.take i)).2.2.2.2 j) ?_ ?_ 0 _ (Nat.zero_le _) ⟨f1, hF0, rfl, rfl, fun j h => by cases h⟩
  · rintro i J hi ⟨i1, i2, i3, i4, i5⟩ hnext
    have MJ := fr_MT i1 hM2 rfl
    have m4 := MJ.2.2.2.2.1
    have e93 : J 93 i = nI (l.getD i 0) := by rw [i1.1 93 (by decide) (by decide)]; exact h93 i hi
    have hjm : l.getD i 0 ∈ l := gd_mem (by omega)
    have hj := hlm _ hjm
    have htk := tk_a (l := l) (i := i) (by omega)
    rw [htk] at hnext
    rw [dyL_a] at hnext
    obtain ⟨b1, b2⟩ := dyL_b hk2 but (l.take i)
    generalize l.getD i 0 = j at e93 hj hnext
    generalize dyL t but (l.take i) = s at i2 i3 i4 i5 hnext b1
    have e1 := MJ.2.2.2.2.2.2.2.2.2.1 j hj
    have e2 := MJ.2.2.2.2.2.2.2.2.2.2.1 j hj
    obtain ⟨a1, a2, a3, a4⟩ := oF j hj
    have q1 : (t 0 4 ≤ i) = False := eq_false (by omega)
    have hS := tok_sf hk2 s.1 0
    have hb : ∀ k, k < 512 → s.1 k ≤ 1000 := fun k h => by have := b1 k h; omega
    refine b_X11_goesDay_73_p16 ?_
    simp (disch := omega) only [pk_mul, nI_add, ksub, kdv, kd8, kd64, kd2, kd3, km8, km64, kt8, ke8, ke64, kcl, kin, kle, klt, keq, up_s, up_n, up_u, true_and, and_true, false_implies, true_implies, not_false_eq_true, not_true_eq_false, m4, q1, e93, e1, e2]
    refine ⟨fun hbut => ?_, fun hbut => ?_⟩
    · have hd : dyF t but s j = s := by unfold dyF; rw [if_pos hbut]
      rw [hd] at hnext
      refine hnext J ⟨i1, i2, i3, i4, fun j' hj' hb' => ?_⟩
      rcases List.mem_append.mp hj' with h | h
      · exact i5 j' h hb'
      · rw [List.mem_singleton] at h
        rw [h] at hb'
        exact absurd hbut hb'
    · have hmw : mwQ J (t 1) s.1 (t 0 0) := by
        have h5 := MT_mwQ (F := J 87) MJ hk2 i2 hb
        rw [up_id] at h5
        exact h5
      refine c_waysTo (b := 0) hmw hS.2.1 a1 a2 (Or.inl rfl) (fun K fK hK => ?_)
      have g2 := wC_le (t 1) (tcf s.1 0) (t 5 j) (t 4 j)
      have fK3 := fr_trans i1 (fr_mono (S' := [87, 88, 89, 94]) (F' := [27, 28, 34, 35]) fK rfl rfl)
      have hnd : ∀ (j' : Nat) (w : Int32) (K' : Nat → Nat → Int32), K' 94 = va_up (K 94) j w → ∀ (wt : Nat → Int32), (∀ j2, j2 ∈ l.take i → nI j2 ≠ but → K 94 j2 = wt j2) → j' ∈ l.take i ++ [j] → nI j' ≠ but → K' 94 j' = va_up wt j w j' := by
        intro j' w K' hK' wt hwt hm hb'
        rw [hK']
        by_cases he : j' = j
        · rw [he, up_s, up_s]
        · rw [up_n he, up_n he]
          rcases List.mem_append.mp hm with h | h
          · exact hwt j' h hb'
          · rw [List.mem_singleton] at h
            exact absurd h he
      have k94 : ∀ j2, j2 ∈ l.take i → nI j2 ≠ but → K 94 j2 = s.2.2.2.2 j2 := fun j2 h1 h2 => by
        rw [fK.1 94 (by decide) (by decide)]
        exact i5 j2 h1 h2
      have k34 : K 73 34 = nI s.2.1 := by rw [fK.2 34 (by decide)]; exact i3
      have k35 : K 73 35 = nI s.2.2.1 := by rw [fK.2 35 (by decide)]; exact i4
      by_cases hf : wC (t 1) (tcf s.1 0) (t 5 j) (t 4 j) < 100000000
      · have g1 := eq_true hf
        have hd : dyF t but s j = (spd (fun v => v - 1) s.1 (wR (t 1) (tcf s.1 0) (t 5 j) (t 4 j)) (wL (t 1) (tcf s.1 0) (t 5 j) (t 4 j) - 2), s.2.1 + 1, s.2.2.1 + wC (t 1) (tcf s.1 0) (t 5 j) (t 4 j) % 1000000 / 100, s.2.2.2.1, va_up s.2.2.2.2 j (nI (wC (t 1) (tcf s.1 0) (t 5 j) (t 4 j) % 1000000 / 100))) := by
          unfold dyF
          rw [if_neg hbut, if_pos hf]
        rw [hd] at hnext
        rw [wlen_m hf]
        simp (disch := omega) only [pk_mul, nI_add, ksub, kdv, kd8, kd64, kd2, kd3, km8, km64, kt8, ke8, ke64, kcl, kin, kle, klt, keq, up_s, up_n, up_u, true_and, and_true, false_implies, true_implies, not_false_eq_true, not_true_eq_false, g1]
        obtain ⟨n1, n2⟩ := hK hf
        obtain ⟨l1, l2⟩ := wL_b hS (show t 4 j < 8 from by omega) hf
        obtain ⟨wk, wp⟩ := wR_ok hS (show t 4 j < 8 from by omega) hf
        have hrun := c_takesRow (e := e) (I := va_up K 94 (va_up (K 94) j (nI (wC (t 1) (tcf s.1 0) (t 5 j) (t 4 j) % 1000000 / 100)))) (L := L) (t := t) (nw := s.1) (R := wR (t 1) (tcf s.1 0) (t 5 j) (t 4 j)) (len := wL (t 1) (tcf s.1 0) (t 5 j) (t 4 j)) (m := wL (t 1) (tcf s.1 0) (t 5 j) (t 4 j) - 2) (F := K 87) (Q := fun I9 => T_X11_goesDay_73_p16 e but (nI (i + 1)) (va_up I9 73 (va_up (va_up (I9 73) 34 (I9 73 34 + nI 1)) 35 (I9 73 35 + I9 94 j))) L Q) n1 n2 (by omega) rfl wk hb (fun i' hi' => tcf_pos (wp i' hi')) (fun k hk5 => by rw [fK.1 87 (by decide) (by decide)]; exact i2 k hk5) (fun F' hF' => ?_)
        · have hid : va_up (va_up K 94 (va_up (K 94) j (nI (wC (t 1) (tcf s.1 0) (t 5 j) (t 4 j) % 1000000 / 100)))) 87 (K 87) = va_up K 94 (va_up (K 94) j (nI (wC (t 1) (tcf s.1 0) (t 5 j) (t 4 j) % 1000000 / 100))) := up_id (va_up K 94 _) 87
          rw [hid] at hrun
          exact hrun
        · have f6 : fr [87, 88, 89, 94] [27, 28, 34, 35] I (va_up (va_up K 94 (va_up (K 94) j (nI (wC (t 1) (tcf s.1 0) (t 5 j) (t 4 j) % 1000000 / 100)))) 87 F') := fr_up (fr_up fK3 rfl) rfl
          have f7 := fr_73 (k := 35) (v := K 73 35 + va_up (K 94) j (nI (wC (t 1) (tcf s.1 0) (t 5 j) (t 4 j) % 1000000 / 100)) j) (fr_73 (k := 34) (v := K 73 34 + nI 1) f6 rfl) rfl
          rw [up_u] at f7
          refine hnext _ ⟨f7, hF', ?_, ?_, fun j' hj' hb' => ?_⟩
          · show K 73 34 + nI 1 = _
            rw [k34, nI_add]
          · show K 73 35 + va_up (K 94) j (nI (wC (t 1) (tcf s.1 0) (t 5 j) (t 4 j) % 1000000 / 100)) j = _
            rw [k35, up_s, nI_add]
          · exact hnd j' _ _ rfl _ k94 hj' hb'
      · have g1 := eq_false hf
        have hd : dyF t but s j = (s.1, s.2.1, s.2.2.1, if s.2.2.2.1 = (-1 : Int32) then nI j else s.2.2.2.1, va_up s.2.2.2.2 j (-1 : Int32)) := by
          unfold dyF
          rw [if_neg hbut, if_neg hf]
        rw [hd] at hnext
        simp (disch := omega) only [pk_mul, nI_add, ksub, kdv, kd8, kd64, kd2, kd3, km8, km64, kt8, ke8, ke64, kcl, kin, kle, klt, keq, up_s, up_n, up_u, true_and, and_true, false_implies, true_implies, not_false_eq_true, not_true_eq_false, g1]
        refine hnext _ ⟨fr_up fK3 rfl, fun k hk5 => ?_, k34, k35, fun j' hj' hb' => ?_⟩
        · show K 87 k = _
          rw [fK.1 87 (by decide) (by decide)]
          exact i2 k hk5
        · exact hnd j' _ _ rfl _ k94 hj' hb'
  · rintro J ⟨i1, i2, i3, i4, i5⟩
    have MJ := fr_MT i1 hM2 rfl
    have m4 := MJ.2.2.2.2.1
    have q1 : (t 0 4 ≤ t 0 4) = True := eq_true (Nat.le_refl _)
    refine b_X11_goesDay_73_p16 ?_
    simp (disch := omega) only [pk_mul, nI_add, ksub, kdv, kd8, kd64, kd2, kd3, km8, km64, kt8, ke8, ke64, kcl, kin, kle, klt, keq, up_s, up_n, up_u, true_and, and_true, false_implies, true_implies, not_false_eq_true, not_true_eq_false, m4, q1]
    have htk : l.take (t 0 4) = l := by rw [← hl]; exact List.take_length
    rw [htk] at i2 i3 i4 i5
    exact hQ J i1 i2 i3 i4 i5
theorem c_pass {e : am_V} {I : Nat → Nat → Int32} {L : Nat → Nat → Int64} {Q : (Nat → Nat → Int32) → Prop} {t : tw} {but : Int32} (hC : CT t I) (hk : tok t)
    (hQ : ∀ J, fr [38, 39, 40, 48, 49, 50] [] I J → (∀ k, k < 512 → tB t k = true → J 49 k = nI ((dyL t but (dlh t (t 0 4) 24)).1 k)) → J 48 2 = nI (dyL t but (dlh t (t 0 4) 24)).2.1 → J 48 3 = (dyL t but (dlh t (t 0 4) 24)).2.2.2.1 → (∀ j, j ∈ dlh t (t 0 4) 24 → nI j ≠ but → J 50 j = (dyL t but (dlh t (t 0 4) 24)).2.2.2.2 j) → Q J) : C_X0_pass_48_3_38 e but I L Q := by
  have hC2 := hC
  have hk2 := hk
  obtain ⟨c0, c1, c2, c3, c4, c5, c6, c7, c8, cS, cD, cN, cA, cT, cM, cR, cF, cO, cH, cL⟩ := hC
  obtain ⟨o0, oT, oZ, oY, oD, o9, oN, o28, oB, oX, oE, oF, oA, oH, oU, oV⟩ := hk
  refine b_X0_pass_48_3_38 ?_
  have f1 : fr [38, 39, 40, 48, 49, 50] [] I (va_up (va_up (va_up I 49 (va_cpy (I 10) (I 49) 0 0 512)) 48 (va_up (I 48) 2 (nI 0))) 48 (va_up (va_up (I 48) 2 (nI 0)) 3 (-1 : Int32))) := fr_up (fr_up (fr_up (fr_refl _ _ _) rfl) rfl) rfl
  refine lp_up (n := 24) (S := Nat → Nat → Int32) (T := fun h J => T_X0_pass_48_3_38_p24 e but (nI h) J L Q) (fun h J => fr [38, 39, 40, 48, 49, 50] [] I J ∧ (∀ k, k < 512 → tB t k = true → J 49 k = nI ((dyL t but (dlh t (t 0 4) h)).1 k)) ∧ J 48 2 = nI (dyL t but (dlh t (t 0 4) h)).2.1 ∧ J 48 3 = (dyL t but (dlh t (t 0 4) h)).2.2.2.1 ∧ ∀ j, j ∈ dlh t (t 0 4) h → nI j ≠ but → J 50 j = (dyL t but (dlh t (t 0 4) h)).2.2.2.2 j) ?_ ?_ 0 _ (Nat.zero_le _) ⟨f1, ?_, rfl, rfl, fun j h => by cases h⟩
  · rintro h J hh ⟨i1, i2, i3, i4, i5⟩ hnext
    have q1 : (24 ≤ h) = False := eq_false (by omega)
    refine b_X0_pass_48_3_38_p24 ?_
    simp (disch := omega) only [pk_mul, nI_add, ksub, kdv, kd8, kd64, kd2, kd3, km8, km64, kt8, ke8, ke64, kcl, kin, kle, klt, keq, up_s, up_n, up_u, true_and, and_true, false_implies, true_implies, not_false_eq_true, not_true_eq_false, q1]
    have hl0 : dlh t (t 0 4) h ++ hrf t 0 h = dlh t (t 0 4) h := by
      show dlh t (t 0 4) h ++ [] = _
      rw [List.append_nil]
    refine lp_up (n := t 0 4) (S := Nat → Nat → Int32) (T := fun j J => T_X0_pass_48_3_38_p34 e but (nI h) (nI j) J L Q) (fun j J => fr [38, 39, 40, 48, 49, 50] [] I J ∧ (∀ k, k < 512 → tB t k = true → J 49 k = nI ((dyL t but (dlh t (t 0 4) h ++ hrf t j h)).1 k)) ∧ J 48 2 = nI (dyL t but (dlh t (t 0 4) h ++ hrf t j h)).2.1 ∧ J 48 3 = (dyL t but (dlh t (t 0 4) h ++ hrf t j h)).2.2.2.1 ∧ ∀ j', j' ∈ dlh t (t 0 4) h ++ hrf t j h → nI j' ≠ but → J 50 j' = (dyL t but (dlh t (t 0 4) h ++ hrf t j h)).2.2.2.2 j') ?_ ?_ 0 J (Nat.zero_le _) (by rw [hl0]; exact ⟨i1, i2, i3, i4, i5⟩)
    · rintro j J hj ⟨i1, i2, i3, i4, i5⟩ hnext2
      have CJ := fr_CT i1 hC2 rfl
      have c7 := CJ.2.2.2.2.2.2.2.1
      have e1 := CJ.2.2.2.2.2.2.2.2.2.2.2.2.2.2.2.2.1 j hj
      have e2 := CJ.2.2.2.2.2.2.2.2.2.2.2.2.2.2.2.2.2.1 j hj
      have e3 := CJ.2.2.2.2.2.2.2.2.2.2.2.2.2.2.2.2.2.2.1 j hj
      obtain ⟨a1, a2, a3, a4⟩ := oF j hj
      have q1 : (t 0 4 ≤ j) = False := eq_false (by omega)
      obtain ⟨b1, b2⟩ := dyL_b hk2 but (dlh t (t 0 4) h ++ hrf t j h)
      refine b_X0_pass_48_3_38_p34 ?_
      simp (disch := omega) only [pk_mul, nI_add, ksub, kdv, kd8, kd64, kd2, kd3, km8, km64, kt8, ke8, ke64, kcl, kin, kle, klt, keq, up_s, up_n, up_u, true_and, and_true, false_implies, true_implies, not_false_eq_true, not_true_eq_false, c7, q1, e1, e2, e3]
      refine ⟨fun hhr => ?_, fun hhr => ?_⟩
      · have hls : dlh t (t 0 4) h ++ hrf t (j + 1) h = (dlh t (t 0 4) h ++ hrf t j h) ++ [j] := by
          rw [hrf_s, if_pos hhr, List.append_assoc]
        rw [hls, dyL_a] at hnext2
        generalize dlh t (t 0 4) h ++ hrf t j h = l at i2 i3 i4 i5 hnext2 b1
        generalize dyL t but l = s at i2 i3 i4 i5 hnext2 b1
        have hS := tok_sf hk2 s.1 0
        have hb : ∀ k, k < 512 → s.1 k ≤ 1000 := fun k h => by have := b1 k h; omega
        refine ⟨fun hbut => ?_, fun hbut => ?_⟩
        · have hd : dyF t but s j = s := by unfold dyF; rw [if_pos hbut]
          rw [hd] at hnext2
          refine hnext2 J ⟨i1, i2, i3, i4, fun j' hj' hb' => ?_⟩
          rcases List.mem_append.mp hj' with h | h
          · exact i5 j' h hb'
          · rw [List.mem_singleton] at h
            rw [h] at hb'
            exact absurd hbut hb'
        · refine c_find_49 (nw := s.1) (m := 0) CJ hk2 i2 hb (by decide) (by omega) (by omega) (fun K hf fK k1 k2 k3 => ?_) (fun K hf fK => ?_)
          · rw [tcm_0] at hf k1 k2 k3
            refine ⟨fun h => absurd h (by decide), fun _ => ?_⟩
            have hd : dyF t but s j = (spd (fun v => v - 1) s.1 (wR (t 1) (tcf s.1 0) (t 5 j) (t 4 j)) (wL (t 1) (tcf s.1 0) (t 5 j) (t 4 j) - 2), s.2.1 + 1, s.2.2.1 + wC (t 1) (tcf s.1 0) (t 5 j) (t 4 j) % 1000000 / 100, s.2.2.2.1, va_up s.2.2.2.2 j (nI (wC (t 1) (tcf s.1 0) (t 5 j) (t 4 j) % 1000000 / 100))) := by
              unfold dyF
              rw [if_neg hbut, if_pos hf]
            rw [hd] at hnext2
            have fK3 := fr_trans i1 (fr_mono (S' := [38, 39, 40, 48, 49, 50]) (F' := []) fK rfl rfl)
            have k48 : K 48 = J 48 := fK.1 48 (by decide) (by decide)
            have k50 : K 50 = J 50 := fK.1 50 (by decide) (by decide)
            rw [k2, wlen_c hS (by omega) hf, k1]
            obtain ⟨l1, l2⟩ := wL_b hS (show t 4 j < 8 from by omega) hf
            obtain ⟨wk, wp⟩ := wR_ok hS (show t 4 j < 8 from by omega) hf
            have hrun := c_addm_49 (e := e) (I := va_up (va_up K 50 (va_up (K 50) j (nI (wC (t 1) (tcf s.1 0) (t 5 j) (t 4 j) % 1000000 / 100)))) 48 (va_up (K 48) 2 (K 48 2 + nI 1))) (L := L) (t := t) (nw := s.1) (R := wR (t 1) (tcf s.1 0) (t 5 j) (t 4 j)) (len := wL (t 1) (tcf s.1 0) (t 5 j) (t 4 j)) (m := wL (t 1) (tcf s.1 0) (t 5 j) (t 4 j) - 2) (F := K 49) (Q := fun I6 => T_X0_pass_48_3_38_p34 e but (nI h) (nI (j + 1)) I6 L Q) k3 (by omega) rfl wk hb (fun i' hi' => tcf_pos (wp i' hi')) (fun k hk5 hp => by rw [fK.1 49 (by decide) (by decide)]; exact i2 k hk5 hp) (fun F' hF' => ?_)
            · have hid : va_up (va_up (va_up K 50 (va_up (K 50) j (nI (wC (t 1) (tcf s.1 0) (t 5 j) (t 4 j) % 1000000 / 100)))) 48 (va_up (K 48) 2 (K 48 2 + nI 1))) 49 (K 49) = va_up (va_up K 50 (va_up (K 50) j (nI (wC (t 1) (tcf s.1 0) (t 5 j) (t 4 j) % 1000000 / 100)))) 48 (va_up (K 48) 2 (K 48 2 + nI 1)) := up_id (va_up (va_up K 50 _) 48 _) 49
              rw [hid] at hrun
              exact hrun
            · refine hnext2 _ ⟨fr_up (fr_up (fr_up fK3 rfl) rfl) rfl, hF', ?_, ?_, fun j' hj' hb' => ?_⟩
              · show va_up (K 48) 2 (K 48 2 + nI 1) 2 = _
                rw [up_s, k48, i3, nI_add]
              · show K 48 3 = _
                rw [k48]; exact i4
              · show va_up (K 50) j _ j' = va_up s.2.2.2.2 j _ j'
                by_cases he : j' = j
                · rw [he, up_s, up_s]
                · rw [up_n he, up_n he, k50]
                  rcases List.mem_append.mp hj' with h | h
                  · exact i5 j' h hb'
                  · rw [List.mem_singleton] at h
                    exact absurd h he
          · rw [tcm_0] at hf
            refine ⟨fun _ => ?_, fun h => absurd rfl h⟩
            have hd : dyF t but s j = (s.1, s.2.1, s.2.2.1, if s.2.2.2.1 = (-1 : Int32) then nI j else s.2.2.2.1, va_up s.2.2.2.2 j (-1 : Int32)) := by
              unfold dyF
              rw [if_neg hbut, if_neg hf]
            rw [hd] at hnext2
            have fK3 := fr_trans i1 (fr_mono (S' := [38, 39, 40, 48, 49, 50]) (F' := []) fK rfl rfl)
            have k48 : K 48 = J 48 := fK.1 48 (by decide) (by decide)
            have k50 : K 50 = J 50 := fK.1 50 (by decide) (by decide)
            have k49 : K 49 = J 49 := fK.1 49 (by decide) (by decide)
            have hw : ∀ j', j' ∈ l ++ [j] → nI j' ≠ but → va_up (K 50) j (-1 : Int32) j' = va_up s.2.2.2.2 j (-1 : Int32) j' := by
              intro j' hj' hb'
              by_cases he : j' = j
              · rw [he, up_s, up_s]
              · rw [up_n he, up_n he, k50]
                rcases List.mem_append.mp hj' with h | h
                · exact i5 j' h hb'
                · rw [List.mem_singleton] at h
                  exact absurd h he
            refine ⟨fun hfl => ?_, fun hfl => ?_⟩
            · rw [k48, i4] at hfl
              rw [if_pos hfl] at hnext2
              refine hnext2 _ ⟨fr_up (fr_up fK3 rfl) rfl, fun k hk5 hp => ?_, ?_, rfl, hw⟩
              · show K 49 k = _
                rw [k49]; exact i2 k hk5 hp
              · show K 48 2 = _
                rw [k48]; exact i3
            · rw [k48, i4] at hfl
              rw [if_neg hfl] at hnext2
              refine hnext2 _ ⟨fr_up fK3 rfl, fun k hk5 hp => ?_, ?_, ?_, hw⟩
              · show K 49 k = _
                rw [k49]; exact i2 k hk5 hp
              · show K 48 2 = _
                rw [k48]; exact i3
              · show K 48 3 = _
                rw [k48]; exact i4
      · have hls : dlh t (t 0 4) h ++ hrf t (j + 1) h = dlh t (t 0 4) h ++ hrf t j h := by
          rw [hrf_s, if_neg hhr, List.append_nil]
        rw [hls] at hnext2
        exact hnext2 J ⟨i1, i2, i3, i4, i5⟩
    · rintro J ⟨i1, i2, i3, i4, i5⟩
      have CJ := fr_CT i1 hC2 rfl
      have c7 := CJ.2.2.2.2.2.2.2.1
      have q1 : (t 0 4 ≤ t 0 4) = True := eq_true (Nat.le_refl _)
      refine b_X0_pass_48_3_38_p34 ?_
      simp (disch := omega) only [pk_mul, nI_add, ksub, kdv, kd8, kd64, kd2, kd3, km8, km64, kt8, ke8, ke64, kcl, kin, kle, klt, keq, up_s, up_n, up_u, true_and, and_true, false_implies, true_implies, not_false_eq_true, not_true_eq_false, c7, q1]
      exact hnext J ⟨i1, i2, i3, i4, i5⟩
  · rintro J ⟨i1, i2, i3, i4, i5⟩
    have q1 : (24 ≤ 24) = True := eq_true (Nat.le_refl _)
    refine b_X0_pass_48_3_38_p24 ?_
    simp (disch := omega) only [pk_mul, nI_add, ksub, kdv, kd8, kd64, kd2, kd3, km8, km64, kt8, ke8, ke64, kcl, kin, kle, klt, keq, up_s, up_n, up_u, true_and, and_true, false_implies, true_implies, not_false_eq_true, not_true_eq_false, q1]
    exact hQ J i1 i2 i3 i4 i5
  · intro k hk5 hp
    show va_cpy (I 10) (I 49) 0 0 512 k = _
    rw [cpy0 hk5]
    exact cR k hk5 hp
