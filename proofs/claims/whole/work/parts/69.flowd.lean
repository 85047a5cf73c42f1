/-! the class's greatest flow: how much fits, pushing, filling -/
theorem kvb : ∀ k, k < 512 → ((-1 : Int32) - nI k = (-1000 : Int32)) = False ∧ ((-1 : Int32) - nI k < nI 0) = True ∧ (-1 : Int32) - ((-1 : Int32) - nI k) = nI k := by
  have h : ∀ k, k < 512 → ¬ ((-1 : Int32) - nI k = (-1000 : Int32)) ∧ ((-1 : Int32) - nI k < nI 0) ∧ (-1 : Int32) - ((-1 : Int32) - nI k) = nI k := by decide +kernel
  exact fun k hk => ⟨eq_false (h k hk).1, eq_true (h k hk).2.1, (h k hk).2.2⟩
theorem kv0 : ∀ k, k < 512 → (nI k = (-1000 : Int32)) = False ∧ (nI k < nI 0) = False := by
  have h : ∀ k, k < 512 → ¬ (nI k = (-1000 : Int32)) ∧ ¬ (nI k < nI 0) := by decide +kernel
  exact fun k hk => ⟨eq_false (h k hk).1, eq_false (h k hk).2⟩
/-- from where an arc was come to; how much fits there -/
def bfr (n : Nat) : Nat := if n < 1000 then (n - 1) / 8 else (n - 1000) % 64
def rmo (c f : Nat → Nat) (n : Nat) : Nat := if n < 1000 then c (n - 1) - f (n - 1) else f (n - 1000)
theorem bfr_on {k : Nat} (h : k < 512) : bfr (1 + k) = k / 8 := by
  unfold bfr
  rw [if_pos (by omega), show 1 + k - 1 = k from by omega]
theorem bfr_bk (k : Nat) : bfr (1000 + k) = k % 64 := by
  unfold bfr
  rw [if_neg (by omega), show 1000 + k - 1000 = k from by omega]
theorem rmo_on {c f : Nat → Nat} {k : Nat} (h : k < 512) : rmo c f (1 + k) = c k - f k := by
  unfold rmo
  rw [if_pos (by omega), show 1 + k - 1 = k from by omega]
theorem rmo_bk {c f : Nat → Nat} (k : Nat) : rmo c f (1000 + k) = f k := by
  unfold rmo
  rw [if_neg (by omega), show 1000 + k - 1000 = k from by omega]
def pth (v : Nat → Nat) (a : Nat) : Nat → Nat
  | 0 => a
  | i + 1 => bfr (v (pth v a i))
theorem pth_s (v : Nat → Nat) (a i : Nat) : pth v a (i + 1) = bfr (v (pth v a i)) := rfl
/-- m fits all the way -/
def fit (c f v : Nat → Nat) (a m : Nat) : Prop := ∀ i, (∀ j, j ≤ i → v (pth v a j) ≠ 0) → m ≤ rmo c f (v (pth v a i))
theorem ltn {i n : Nat} {P : Nat → Prop} (h : ∀ j, j < i → P j) (hi : P i) : n ≤ i → P n := fun hn => by
  rcases Nat.lt_or_ge n i with h1 | h1
  · exact h n h1
  · rw [show n = i from by omega]; exact hi
theorem c_room {e : am_V} {I : Nat → Nat → Int32} {L : Nat → Nat → Int64} {Q : Int32 → (Nat → Nat → Int32) → Prop} {t : tw} {x a z : Nat} {f q r v : Nat → Nat} {sn : Nat → Bool} {J : Nat → Nat → Int32} (hC : CT t I) (hk : tok t) (hf : ∀ k, k < 512 → I 44 k = nI (f k)) (hb : ∀ k, k < 512 → f k ≤ t 3 k) (h : cvS t x f I z sn q r v J) (ha : a < 64) (hs : sn a = true) (hQ : ∀ m, 0 < m → m ≤ 4608 → fit (t 3) f v a m → Q (nI m) J) : C_X6_roomTo_43_3 e (nI a) J L Q := by
  have hw := tok_nw hk
  have hz := bfs_le h.2.2.2.2.1
  have hC1 := fr_CT h.1 hC rfl
  have e44 : ∀ k, k < 512 → J 44 k = nI (f k) := fun k hk => by rw [h.1.1 44 (by decide) (by decide)]; exact hf k hk
  refine b_X6_roomTo_43_3 ?_
  have hm : ∀ n b i m, r b = n → b = pth v a i → (∀ j, j < i → v (pth v a j) ≠ 0) → b < 64 → sn b = true → i + r b < 64 → 0 < m → m ≤ 4608 → (∀ j, j < i → m ≤ rmo (t 3) f (v (pth v a j))) → T_X6_roomTo_43_3_p10 e (nI m) (nI b) (nI i) J L Q := by
    intro n
    induction n using Nat.strongRecOn with
    | ind n ih =>
      intro b i m hn hp hv hb6 hsb hir h0 h46 hr
      obtain ⟨g1, g2, g3⟩ := h.2.2.2.2.2 b hb6 hsb
      have q1 : (64 ≤ i) = False := eq_false (by omega)
      refine b_X6_roomTo_43_3_p10 ?_
      rcases g3 with g | ⟨k, k1, k2, k3, k4, k5, k6⟩ | ⟨k, k1, k2, k3, k4, k5, k6⟩
      · have e47 : J 47 b = (-1000 : Int32) := by rw [g2, g.1]; rfl
        have q2 : ((-1000 : Int32) = (-1000 : Int32)) = True := eq_true rfl
        simp (disch := omega) only [pk_mul, nI_add, ksub, kdv, kd8, kd64, kd2, kd3, km8, km64, kt8, ke8, ke64, kcl, kin, kle, klt, keq, up_s, up_n, up_u, true_and, and_true, false_implies, true_implies, not_false_eq_true, not_true_eq_false, q1, e47, q2]
        refine hQ m h0 h46 (fun i' hi' => ?_)
        rcases Nat.lt_or_ge i' i with h1 | h1
        · exact hr i' h1
        · have h2 := hi' i h1
          rw [← hp] at h2
          exact absurd g.1 h2
      · have e47 : J 47 b = nI k := by rw [g2, k2]; exact (vI_on k1).symm
        have ef := e44 k k1
        have er := hC1.2.2.2.2.2.2.2.2.2.2.2.2.2.2.2.1 k k1 (t3_pos hk k1 (by omega))
        have bd := hw k k1
        have bd2 := hb k k1
        have hvb : v b ≠ 0 := by omega
        have en : pth v a (i + 1) = k / 8 := by rw [pth_s, ← hp, k2, bfr_on k1]
        have erm : rmo (t 3) f (v (pth v a i)) = t 3 k - f k := by rw [← hp, k2, rmo_on k1]
        have q2 := (kv0 k k1).1
        have q3 : (k < 0) = False := eq_false (by omega)
        by_cases hc : t 3 k - f k < m
        · have q5 := eq_true hc
          simp (disch := omega) only [pk_mul, nI_add, ksub, kdv, kd8, kd64, kd2, kd3, km8, km64, kt8, ke8, ke64, kcl, kin, kle, klt, keq, up_s, up_n, up_u, true_and, and_true, false_implies, true_implies, not_false_eq_true, not_true_eq_false, q1, e47, q2, q3, ef, er, q5, if_true]
          refine ih (r (k / 8)) (by omega) (k / 8) (i + 1) (t 3 k - f k) rfl en.symm (fun j hj => ltn (P := fun j => v (pth v a j) ≠ 0) hv (by rw [← hp]; exact hvb) (by omega)) (by omega) k4 (by omega) (by omega) (by omega) (fun j hj => ltn (P := fun j => t 3 k - f k ≤ rmo (t 3) f (v (pth v a j))) (fun j hj => by have := hr j hj; omega) (by rw [erm]; exact Nat.le_refl _) (by omega))
        · have q5 := eq_false hc
          simp (disch := omega) only [pk_mul, nI_add, ksub, kdv, kd8, kd64, kd2, kd3, km8, km64, kt8, ke8, ke64, kcl, kin, kle, klt, keq, up_s, up_n, up_u, true_and, and_true, false_implies, true_implies, not_false_eq_true, not_true_eq_false, q1, e47, q2, q3, ef, er, q5, if_false]
          refine ih (r (k / 8)) (by omega) (k / 8) (i + 1) m rfl en.symm (fun j hj => ltn (P := fun j => v (pth v a j) ≠ 0) hv (by rw [← hp]; exact hvb) (by omega)) (by omega) k4 (by omega) (by omega) (by omega) (fun j hj => ltn (P := fun j => m ≤ rmo (t 3) f (v (pth v a j))) hr (by rw [erm]; omega) (by omega))
      · obtain ⟨w1, w2, w3⟩ := kvb k k1
        have e47 : J 47 b = (-1 : Int32) - nI k := by rw [g2, k2]; exact (vI_bk k).symm
        have ef := e44 k k1
        have bd := hw k k1
        have bd2 := hb k k1
        have hvb : v b ≠ 0 := by omega
        have en : pth v a (i + 1) = k % 64 := by rw [pth_s, ← hp, k2, bfr_bk]
        have erm : rmo (t 3) f (v (pth v a i)) = f k := by rw [← hp, k2, rmo_bk]
        by_cases hc : f k < m
        · have q5 := eq_true hc
          simp (disch := omega) only [pk_mul, nI_add, ksub, kdv, kd8, kd64, kd2, kd3, km8, km64, kt8, ke8, ke64, kcl, kin, kle, klt, keq, up_s, up_n, up_u, true_and, and_true, false_implies, true_implies, not_false_eq_true, not_true_eq_false, q1, e47, w1, w2, w3, ef, q5, if_true]
          refine ih (r (k % 64)) (by omega) (k % 64) (i + 1) (f k) rfl en.symm (fun j hj => ltn (P := fun j => v (pth v a j) ≠ 0) hv (by rw [← hp]; exact hvb) (by omega)) (by omega) k4 (by omega) (by omega) (by omega) (fun j hj => ltn (P := fun j => f k ≤ rmo (t 3) f (v (pth v a j))) (fun j hj => by have := hr j hj; omega) (by rw [erm]; exact Nat.le_refl _) (by omega))
        · have q5 := eq_false hc
          simp (disch := omega) only [pk_mul, nI_add, ksub, kdv, kd8, kd64, kd2, kd3, km8, km64, kt8, ke8, ke64, kcl, kin, kle, klt, keq, up_s, up_n, up_u, true_and, and_true, false_implies, true_implies, not_false_eq_true, not_true_eq_false, q1, e47, w1, w2, w3, ef, q5, if_false]
          refine ih (r (k % 64)) (by omega) (k % 64) (i + 1) m rfl en.symm (fun j hj => ltn (P := fun j => v (pth v a j) ≠ 0) hv (by rw [← hp]; exact hvb) (by omega)) (by omega) k4 (by omega) (by omega) (by omega) (fun j hj => ltn (P := fun j => m ≤ rmo (t 3) f (v (pth v a j))) hr (by rw [erm]; omega) (by omega))
  exact hm _ a 0 4608 rfl rfl (fun j h => absurd h (Nat.not_lt_zero _)) ha hs (by have := (h.2.2.2.2.2 a ha hs).1; omega) (by decide) (by decide) (fun j h => absurd h (Nat.not_lt_zero _))
theorem c_push {e : am_V} {I : Nat → Nat → Int32} {L : Nat → Nat → Int64} {Q : (Nat → Nat → Int32) → Prop} {t : tw} {x g a z m w : Nat} {f q r v : Nat → Nat} {sn : Nat → Bool} {J : Nat → Nat → Int32} (hk : tok t) (hf : ∀ k, k < 512 → I 44 k = nI (f k)) (h : cvS t x f I z sn q r v J) (ha : a < 64) (hs : sn a = true) (hg : a % 8 = g) (hF : FL (t 1) (t 3) x g f w) (hft : fit (t 3) f v a m) (hQ : ∀ f' F, FL (t 1) (t 3) x g f' (w + m) → (∀ k, k < 512 → F k = nI (f' k)) → Q (va_up J 44 F)) : C_X6_pushTo_43 e (nI a) (nI m) J L Q := by
  have hw := tok_nw hk
  have hz := bfs_le h.2.2.2.2.1
  have e44 : ∀ k, k < 512 → J 44 k = nI (f k) := fun k hk => by rw [h.1.1 44 (by decide) (by decide)]; exact hf k hk
  refine b_X6_pushTo_43 ?_
  have hm : ∀ n b i f1 F, r b = n → b = pth v a i → (∀ j, j < i → v (pth v a j) ≠ 0) → b < 64 → sn b = true → i + r b < 64 → FP (t 1) (t 3) x g sn r f f1 w m b → (∀ k, k < 512 → F k = nI (f1 k)) → T_X6_pushTo_43_p5 e (nI m) (nI b) (nI i) (va_up J 44 F) L Q := by
    intro n
    induction n using Nat.strongRecOn with
    | ind n ih =>
      intro b i f1 F hn hp hv hb6 hsb hir hP hFk
      obtain ⟨g1, g2, g3⟩ := h.2.2.2.2.2 b hb6 hsb
      have q1 : (64 ≤ i) = False := eq_false (by omega)
      refine b_X6_pushTo_43_p5 ?_
      rcases g3 with g | ⟨k, k1, k2, k3, k4, k5, k6⟩ | ⟨k, k1, k2, k3, k4, k5, k6⟩
      · have e47 : J 47 b = (-1000 : Int32) := by rw [g2, g.1]; rfl
        have q2 : ((-1000 : Int32) = (-1000 : Int32)) = True := eq_true rfl
        simp (disch := omega) only [pk_mul, nI_add, ksub, kdv, kd8, kd64, kd2, kd3, km8, km64, kt8, ke8, ke64, kcl, kin, kle, klt, keq, up_s, up_n, up_u, true_and, and_true, false_implies, true_implies, not_false_eq_true, not_true_eq_false, q1, e47, q2]
        exact hQ f1 F (FP_e hP g.2) hFk
      · have e47 : J 47 b = nI k := by rw [g2, k2]; exact (vI_on k1).symm
        have ef := hFk k k1
        have bd := hw k k1
        have hvb : v b ≠ 0 := by omega
        have en : pth v a (i + 1) = k / 8 := by rw [pth_s, ← hp, k2, bfr_on k1]
        have hmf := hft i (fun j hj => ltn (P := fun j => v (pth v a j) ≠ 0) hv (by rw [← hp]; exact hvb) hj)
        rw [← hp, k2, rmo_on k1] at hmf
        have q2 := (kv0 k k1).1
        have q3 : (k < 0) = False := eq_false (by omega)
        obtain ⟨hfk, hP2⟩ := FP_on hP k1 rfl k3 hsb k4 (by omega) (by omega)
        simp (disch := omega) only [pk_mul, nI_add, ksub, kdv, kd8, kd64, kd2, kd3, km8, km64, kt8, ke8, ke64, kcl, kin, kle, klt, keq, up_s, up_n, up_u, true_and, and_true, false_implies, true_implies, not_false_eq_true, not_true_eq_false, q1, e47, q2, q3, ef]
        refine ih (r (k / 8)) (by omega) (k / 8) (i + 1) _ _ rfl en.symm (fun j hj => ltn (P := fun j => v (pth v a j) ≠ 0) hv (by rw [← hp]; exact hvb) (by omega)) (by omega) k4 (by omega) hP2 (fun j hj => ?_)
        by_cases he : j = k
        · rw [he, up_s, up_s]
        · rw [up_n he, up_n he]; exact hFk j hj
      · obtain ⟨w1, w2, w3⟩ := kvb k k1
        have e47 : J 47 b = (-1 : Int32) - nI k := by rw [g2, k2]; exact (vI_bk k).symm
        have ef := hFk k k1
        have bd := hw k k1
        have hvb : v b ≠ 0 := by omega
        have en : pth v a (i + 1) = k % 64 := by rw [pth_s, ← hp, k2, bfr_bk]
        have hmf := hft i (fun j hj => ltn (P := fun j => v (pth v a j) ≠ 0) hv (by rw [← hp]; exact hvb) hj)
        rw [← hp, k2, rmo_bk] at hmf
        obtain ⟨hfk, hP2⟩ := FP_bk hP k1 k3 rfl hsb k4 (by omega) hmf
        simp (disch := omega) only [pk_mul, nI_add, ksub, kdv, kd8, kd64, kd2, kd3, km8, km64, kt8, ke8, ke64, kcl, kin, kle, klt, keq, up_s, up_n, up_u, true_and, and_true, false_implies, true_implies, not_false_eq_true, not_true_eq_false, q1, e47, w1, w2, w3, ef]
        refine ih (r (k % 64)) (by omega) (k % 64) (i + 1) _ _ rfl en.symm (fun j hj => ltn (P := fun j => v (pth v a j) ≠ 0) hv (by rw [← hp]; exact hvb) (by omega)) (by omega) k4 (by omega) hP2 (fun j hj => ?_)
        by_cases he : j = k
        · rw [he, up_s, up_s]
        · rw [up_n he, up_n he]; exact hFk j hj
  have h1 := hm _ a 0 f (J 44) rfl rfl (fun j h => absurd h (Nat.not_lt_zero _)) ha hs (by have := (h.2.2.2.2.2 a ha hs).1; omega) (FP_0 hF ha hg) e44
  rw [up_id] at h1
  exact h1
theorem c_flowfill {e : am_V} {I : Nat → Nat → Int32} {L : Nat → Nat → Int64} {Q : (Nat → Nat → Int32) → Prop} {t : tw} {x g : Nat} (hC : CT t I) (hk : tok t) (hx : x < 8) (hg : g < 8) (hst : t 1 (8 * x + g) = 0) (hQ : ∀ J f w (sn : Nat → Bool), fr [43, 44, 45, 46, 47] [] I J → GF (t 1) (t 3) x g f w → w < 4608 → J 43 5 = nI w → (∀ a, a < 64 → J 45 a = nI (if sn a = true then 1 else 0)) → (∀ a, a < 64 → (sn a = true ↔ RC (rS (t 1) x) (rF (t 3) f) a)) → Q J) : C_X6_fill_43_3 e (nI x) (nI g) I L Q := by
  have h9 : ∀ k, k < 512 → t 3 k ≤ 9 := by
    have hk2 := hk
    obtain ⟨o0, oT, oZ, oY, oD, o9, oN, o28, oB, oX, oE, oF, oA, oH, oU, oV⟩ := hk2
    exact fun k hk => (oB k hk).2
  have hm : ∀ n w i f J, 4608 - w = n → i ≤ w → FL (t 1) (t 3) x g f w → fr [43, 44, 45, 46, 47] [] I J → J 43 5 = nI w → (∀ k, k < 512 → J 44 k = nI (f k)) → C_X6_search_43_3 e (nI x) (nI g) J L (fun r K => T_X6_fill_43_3_p25 e (nI x) (nI g) r (nI i) K L Q) := by
    intro n
    induction n using Nat.strongRecOn with
    | ind n ih =>
      intro w i f J hn hi hF fJ h5 h44
      have hw := FL_lt hF h9 hx hg hst
      have hCJ := fr_CT fJ hC rfl
      refine c_search hCJ hk h44 hF.1 hx hg (fun K sn k1 k2 k3 k4 k5 => ?_) (fun z sn q r v K a k1 k2 k3 k4 => ?_)
      · refine b_X6_fill_43_3_p25 ?_
        have q1 : (4608 ≤ i) = False := eq_false (by omega)
        have q2 : ((-1 : Int32) = (-1 : Int32)) = True := eq_true rfl
        simp (disch := omega) only [pk_mul, nI_add, ksub, kdv, kd8, kd64, kd2, kd3, km8, km64, kt8, ke8, ke64, kcl, kin, kle, klt, keq, up_s, up_n, up_u, true_and, and_true, false_implies, true_implies, not_false_eq_true, not_true_eq_false, q1, q2]
        exact hQ K f w sn (fr_trans fJ (fr_mono k1 rfl rfl)) ⟨hF, fun a ha hr => k5 a ha ((k4 a ha).mpr hr)⟩ hw (by rw [k2, h5]) k3 k4
      · refine b_X6_fill_43_3_p25 ?_
        have q1 : (4608 ≤ i) = False := eq_false (by omega)
        have q2 := km1 (n := a) (by omega)
        simp (disch := omega) only [pk_mul, nI_add, ksub, kdv, kd8, kd64, kd2, kd3, km8, km64, kt8, ke8, ke64, kcl, kin, kle, klt, keq, up_s, up_n, up_u, true_and, and_true, false_implies, true_implies, not_false_eq_true, not_true_eq_false, q1, q2]
        refine c_room hCJ hk h44 hF.1 k1 k2 k3 (fun m m1 m2 m3 => ?_)
        refine c_push hk h44 k1 k2 k3 k4 hF m3 (fun f' F p1 p2 => ?_)
        have e5 : (va_up K 44 F) 43 5 = nI w := by
          show K 43 5 = nI w
          rw [k1.2.1, h5]
        have hw2 := FL_lt p1 h9 hx hg hst
        rw [e5, nI_add]
        exact ih (4608 - (w + m)) (by omega) (w + m) (i + 1) f' _ rfl (by omega) p1 (fr_up (fr_up (fr_trans fJ (fr_mono k1.1 rfl rfl)) rfl) rfl) rfl p2
  refine b_X6_fill_43_3 (c_fill_44 (fun F0 hF0 => ?_))
  exact hm _ 0 0 (fun _ => 0) _ rfl (Nat.le_refl _) (FL_0 (fun _ _ => rfl)) (fr_up (fr_up (fr_refl _ _ _) rfl) rfl) rfl hF0
