/-! flow, cut, wall asked -/
def wlp (t : tw) (sn : Nat → Bool) (k : Nat) : Bool := decide (0 < t 3 k) && (sn (k / 8) && !(sn (k % 64)))
theorem wlp_c {t : tw} {sn sn' : Nat → Bool} (h : ∀ a, a < 64 → sn a = sn' a) {k : Nat} (hk : k < 512) : wlp t sn k = wlp t sn' k := by
  unfold wlp
  rw [h (k / 8) (by omega), h (k % 64) (by omega)]
theorem cn_1 {p : Nat → Bool} {n : Nat} (h : p n = true) : cn p (n + 1) = cn p n + 1 := by
  show cn p n + (if p n = true then 1 else 0) = _
  rw [if_pos h]
theorem cn_0 {p : Nat → Bool} {n : Nat} (h : p n = false) : cn p (n + 1) = cn p n := by
  show cn p n + (if p n = true then 1 else 0) = _
  rw [if_neg (by rw [h]; decide)]
  rfl
/-- the number-th turn of the cut -/
def wlk (t : tw) (sn : Nat → Bool) (v : Int32) : Nat := ff (fun k => wlp t sn k && decide (nI (cn (wlp t sn) k) = v)) 512
def wlR (t : tw) (sn : Nat → Bool) (v : Int32) : Int32 := if wlk t sn v < 512 then nI (100 * (wlk t sn v / 64) + 10 * (wlk t sn v / 8 % 8) + wlk t sn v % 8) else (-1 : Int32)
theorem ff_c {p q : Nat → Bool} {n : Nat} (h : ∀ k, k < n → p k = q k) : ff p n = ff q n := by
  induction n with
  | zero => rfl
  | succ n ih =>
    show (if ff p n < n then ff p n else if p n = true then n else n + 1) = (if ff q n < n then ff q n else if q n = true then n else n + 1)
    rw [ih (fun k hk => h k (by omega)), h n (by omega)]
theorem wlR_c {t : tw} {sn sn' : Nat → Bool} {v : Int32} (h : ∀ a, a < 64 → sn a = sn' a) : wlR t sn v = wlR t sn' v := by
  have h1 : wlk t sn v = wlk t sn' v := by
    unfold wlk
    refine ff_c (fun k hk => ?_)
    rw [wlp_c h hk, cn_c (fun j hj => wlp_c h (show j < 512 from by omega))]
  unfold wlR
  rw [h1]
theorem wl_3 {t : tw} {sn : Nat → Bool} {k : Nat} (h : t 3 k ≤ 0) : wlp t sn k = false := by
  unfold wlp
  rw [decide_eq_false (by omega)]
  rfl
theorem wl_a {t : tw} {sn : Nat → Bool} {k : Nat} (h : sn (k / 8) = false) : wlp t sn k = false := by
  unfold wlp
  rw [h, Bool.false_and, Bool.and_false]
theorem wl_b {t : tw} {sn : Nat → Bool} {k : Nat} (h : sn (k % 64) = true) : wlp t sn k = false := by
  unfold wlp
  rw [h, Bool.not_true, Bool.and_false, Bool.and_false]
theorem wl_t {t : tw} {sn : Nat → Bool} {k : Nat} (h : ¬ t 3 k ≤ 0) (h1 : sn (k / 8) = true) (h2 : sn (k % 64) = false) : wlp t sn k = true := by
  unfold wlp
  rw [h1, h2, decide_eq_true (by omega)]
  rfl
theorem bt {b : Bool} (h : ¬ b = false) : b = true := by cases b <;> simp at h ⊢
theorem c_cutTurns {e : am_V} {I : Nat → Nat → Int32} {L : Nat → Nat → Int64} {Q : Int32 → (Nat → Nat → Int32) → Prop} {t : tw} {sn : Nat → Bool} (hC : CT t I) (hk : tok t) (h45 : ∀ a, a < 64 → I 45 a = nI (if sn a = true then 1 else 0)) (hQ : Q (nI (cn (wlp t sn) 512)) I) : C_X6_cutTurns_43_3 e I L Q := by
  have hk2 := hk
  obtain ⟨c0, c1, c2, c3, c4, c5, c6, c7, c8, cS, cD, cN, cA, cT, cM, cR, cF, cO, cH, cL⟩ := hC
  obtain ⟨o0, oT, oZ, oY, oD, o9, oN, o28, oB, oX, oE, oF, oA, oH, oU, oV⟩ := hk
  have hlt : (tu t).length ≤ 512 := by rw [cn_fl]; exact cn_n _ _
  have hcb : ∀ k, cn (wlp t sn) k ≤ k := fun k => cn_n _ _
  refine b_X6_cutTurns_43_3 ?_
  refine lp_fl (l := tu t) rfl (N := 512) (p := tB t) (S := Nat) (T := fun i s => T_X6_cutTurns_43_3_p4 e (nI s) (nI i) I L Q) (fun k s => s = cn (wlp t sn) k) ?_ ?_ ?_ 0 rfl
  · intro k s hk5 hp hi
    rw [cn_0 (wl_3 (by rw [oX k hk5 hp]; exact Nat.le_refl _))]
    exact hi
  · intro k i s hk5 hp hi hik hs hnext
    have q2 : ((tu t).length ≤ i) = False := eq_false (by omega)
    have e8 : I 8 i = nI k := by rw [cT i hi, hik]
    have er := cR k hk5 hp
    have ub := (oB k hk5).2
    have ea := h45 (k / 8) (by omega)
    have eb := h45 (k % 64) (by omega)
    have hb := hcb k
    refine b_X6_cutTurns_43_3_p4 ?_
    simp (disch := omega) only [pk_mul, nI_add, ksub, kdv, kd8, kd64, kd2, kd3, km8, km64, kt8, ke8, ke64, kcl, kin, kle, klt, keq, up_s, up_n, up_u, true_and, and_true, false_implies, true_implies, not_false_eq_true, not_true_eq_false, c6, q2, e8, er, ea, eb, if1, if2]
    refine ⟨fun h0 => hnext _ ?_, fun h0 => ⟨fun h1 => ⟨fun h2 => hnext _ ?_, fun h2 => hnext _ ?_⟩, fun h1 => hnext _ ?_⟩⟩
    · rw [cn_0 (wl_3 h0)]; exact hs
    · rw [cn_1 (wl_t h0 h1 h2), hs]
    · rw [cn_0 (wl_b (bt h2))]; exact hs
    · rw [cn_0 (wl_a (bf1 h1))]; exact hs
  · intro s hs
    have q2 : ((tu t).length ≤ (tu t).length) = True := eq_true (Nat.le_refl _)
    refine b_X6_cutTurns_43_3_p4 ?_
    simp (disch := omega) only [pk_mul, nI_add, ksub, kdv, kd8, kd64, kd2, kd3, km8, km64, kt8, ke8, ke64, kcl, kin, kle, klt, keq, up_s, up_n, up_u, true_and, and_true, false_implies, true_implies, not_false_eq_true, not_true_eq_false, c6, q2]
    rw [hs]
    exact hQ
theorem c_cutTurn {e : am_V} {I : Nat → Nat → Int32} {L : Nat → Nat → Int64} {Q : Int32 → (Nat → Nat → Int32) → Prop} {t : tw} {sn : Nat → Bool} {v : Int32} (hC : CT t I) (hk : tok t) (h45 : ∀ a, a < 64 → I 45 a = nI (if sn a = true then 1 else 0)) (hQ : Q (wlR t sn v) I) : C_X6_cutTurn_43_3 e v I L Q := by
  have hk2 := hk
  obtain ⟨c0, c1, c2, c3, c4, c5, c6, c7, c8, cS, cD, cN, cA, cT, cM, cR, cF, cO, cH, cL⟩ := hC
  obtain ⟨o0, oT, oZ, oY, oD, o9, oN, o28, oB, oX, oE, oF, oA, oH, oU, oV⟩ := hk
  have hlt : (tu t).length ≤ 512 := by rw [cn_fl]; exact cn_n _ _
  have hcb : ∀ k, cn (wlp t sn) k ≤ k := fun k => cn_n _ _
  refine b_X6_cutTurn_43_3 ?_
  refine lp_fl (l := tu t) rfl (N := 512) (p := tB t) (S := Nat) (T := fun i s => T_X6_cutTurn_43_3_p5 e v (nI s) (nI i) I L Q) (fun k s => s = cn (wlp t sn) k ∧ ∀ j, j < k → (wlp t sn j && decide (nI (cn (wlp t sn) j) = v)) = false) ?_ ?_ ?_ 0 ⟨rfl, fun j h => absurd h (Nat.not_lt_zero _)⟩
  · intro k s hk5 hp ⟨hi, hj⟩
    have hf := wl_3 (t := t) (sn := sn) (k := k) (by rw [oX k hk5 hp]; exact Nat.le_refl _)
    refine ⟨by rw [cn_0 hf]; exact hi, fun j hj2 => ?_⟩
    by_cases he : j = k
    · rw [he, hf]; rfl
    · exact hj j (by omega)
  · intro k i s hk5 hp hi hik ⟨hs, hj⟩ hnext
    have q2 : ((tu t).length ≤ i) = False := eq_false (by omega)
    have e8 : I 8 i = nI k := by rw [cT i hi, hik]
    have er := cR k hk5 hp
    have ub := (oB k hk5).2
    have ea := h45 (k / 8) (by omega)
    have eb := h45 (k % 64) (by omega)
    have hb := hcb k
    have hno : wlp t sn k = false → s = cn (wlp t sn) (k + 1) ∧ ∀ j, j < k + 1 → (wlp t sn j && decide (nI (cn (wlp t sn) j) = v)) = false := by
      intro hf
      refine ⟨by rw [cn_0 hf]; exact hs, fun j hj2 => ?_⟩
      by_cases he : j = k
      · rw [he, hf]; rfl
      · exact hj j (by omega)
    refine b_X6_cutTurn_43_3_p5 ?_
    simp (disch := omega) only [pk_mul, nI_add, ksub, kdv, kd8, kd64, kd2, kd3, km8, km64, kt8, ke8, ke64, kcl, kin, kle, klt, keq, up_s, up_n, up_u, true_and, and_true, false_implies, true_implies, not_false_eq_true, not_true_eq_false, c6, q2, e8, er, ea, eb, if1, if2]
    refine ⟨fun h0 => hnext _ (hno (wl_3 h0)), fun h0 => ⟨fun h1 => ⟨fun h2 => ⟨fun hv => ?_, fun hv => hnext _ ?_⟩, fun h2 => hnext _ (hno (wl_b (bt h2)))⟩, fun h1 => hnext _ (hno (wl_a (bf1 h1)))⟩⟩
    · have hw : wlk t sn v = k := ff_eq hk5 (by rw [wl_t h0 h1 h2, ← hs, decide_eq_true hv]; rfl) hj
      have h5 := hQ
      unfold wlR at h5
      rw [hw, if_pos hk5] at h5
      exact h5
    · have hf := wl_t h0 h1 h2
      refine ⟨by rw [cn_1 hf, hs], fun j hj2 => ?_⟩
      by_cases he : j = k
      · rw [he, ← hs, decide_eq_false hv, Bool.and_false]
      · exact hj j (by omega)
  · intro s ⟨hs, hj⟩
    have q2 : ((tu t).length ≤ (tu t).length) = True := eq_true (Nat.le_refl _)
    refine b_X6_cutTurn_43_3_p5 ?_
    simp (disch := omega) only [pk_mul, nI_add, ksub, kdv, kd8, kd64, kd2, kd3, km8, km64, kt8, ke8, ke64, kcl, kin, kle, klt, keq, up_s, up_n, up_u, true_and, and_true, false_implies, true_implies, not_false_eq_true, not_true_eq_false, c6, q2]
    have hw : wlk t sn v = 512 := ff_no hj
    have h5 := hQ
    unfold wlR at h5
    rw [hw, if_neg (by decide)] at h5
    exact h5
theorem c_mcut {e : am_V} {I : Nat → Nat → Int32} {L : Nat → Nat → Int64} {Q : Int32 → (Nat → Nat → Int32) → Prop} {t : tw} {sn : Nat → Bool} (hM : MT t I) (hk : tok t) (h91 : ∀ a, a < 64 → (I 91 a = (-1 : Int32)) = (sn a = false)) (hQ : Q (nI (cn (wlp t sn) 512)) I) : T_X11_cut__73_p40 e (nI 0) (nI 0) I L Q := by
  have hk2 := hk
  obtain ⟨m0, m1, m2, m3, m4, m5, mS, mU, mL, mF, mO, mH, mA, mK⟩ := hM
  obtain ⟨o0, oT, oZ, oY, oD, o9, oN, o28, oB, oX, oE, oF, oA, oH, oU, oV⟩ := hk
  have hcb : ∀ k, cn (wlp t sn) k ≤ k := fun k => cn_n _ _
  refine lp_up (n := 512) (S := Nat) (T := fun i s => T_X11_cut__73_p40 e (nI s) (nI i) I L Q) (fun k s => s = cn (wlp t sn) k) ?_ ?_ 0 0 (Nat.zero_le _) rfl
  · intro k s hk5 hs hnext
    have q2 : (512 ≤ k) = False := eq_false (by omega)
    have er := mL k hk5
    have ub := (oB k hk5).2
    have ea := h91 (k / 8) (by omega)
    have eb := h91 (k % 64) (by omega)
    have qk : 8 * (k / 8 % 8) + k % 8 = k % 64 := by omega
    have hb := hcb k
    refine b_X11_cut__73_p40 ?_
    simp (disch := omega) only [pk_mul, nI_add, ksub, kdv, kd8, kd64, kd2, kd3, km8, km64, kt8, ke8, ke64, kcl, kin, kle, klt, keq, up_s, up_n, up_u, true_and, and_true, false_implies, true_implies, not_false_eq_true, not_true_eq_false, q2, er, ea, eb, qk, Nat.add_zero]
    refine ⟨fun h0 => hnext _ ?_, fun h0 => ⟨fun h1 => hnext _ ?_, fun h1 => ⟨fun h2 => hnext _ ?_, fun h2 => hnext _ ?_⟩⟩⟩
    · rw [cn_0 (wl_3 h0)]; exact hs
    · rw [cn_0 (wl_a h1)]; exact hs
    · rw [cn_1 (wl_t h0 (bt h1) h2), hs]
    · rw [cn_0 (wl_b (bt h2))]; exact hs
  · intro s hs
    have q2 : (512 ≤ 512) = True := eq_true (Nat.le_refl _)
    refine b_X11_cut__73_p40 ?_
    simp (disch := omega) only [pk_mul, nI_add, ksub, kdv, kd8, kd64, kd2, kd3, km8, km64, kt8, ke8, ke64, kcl, kin, kle, klt, keq, up_s, up_n, up_u, true_and, and_true, false_implies, true_implies, not_false_eq_true, not_true_eq_false, q2]
    rw [hs]
    exact hQ
theorem kdc {u v : Int32} {c : Nat} (h : v = u + nI c) : v = u + (-1 : Int32) + nI (c + 1) := by
  rw [show c + 1 = 1 + c from by omega, ← nI_add, ← Int32.add_assoc, Int32.add_assoc u, show (-1 : Int32) + nI 1 = 0 from rfl, Int32.add_zero]
  exact h
theorem kd0 {u v : Int32} {c : Nat} (h : v = u + nI c) : (u = nI 0) = (nI c = v) := by
  refine propext ⟨fun h0 => ?_, fun h0 => ?_⟩
  · rw [h, h0]
    exact (Int32.zero_add _).symm
  · rw [← h0] at h
    have h1 : nI 0 + nI c = u + nI c := by rw [← h]; exact Int32.zero_add _
    exact ((Int32.add_left_inj _).mp h1).symm
theorem c_mwall {e : am_V} {I : Nat → Nat → Int32} {L : Nat → Nat → Int64} {Q : Int32 → (Nat → Nat → Int32) → Prop} {t : tw} {sn : Nat → Bool} {v : Int32} (hM : MT t I) (hk : tok t) (h91 : ∀ a, a < 64 → (I 91 a = (-1 : Int32)) = (sn a = false)) (hQ : Q (wlR t sn v) I) : T_X11_wall_73_p41 e v (nI 0) I L Q := by
  have hk2 := hk
  obtain ⟨m0, m1, m2, m3, m4, m5, mS, mU, mL, mF, mO, mH, mA, mK⟩ := hM
  obtain ⟨o0, oT, oZ, oY, oD, o9, oN, o28, oB, oX, oE, oF, oA, oH, oU, oV⟩ := hk
  have hcb : ∀ k, cn (wlp t sn) k ≤ k := fun k => cn_n _ _
  refine lp_up (n := 512) (S := Int32) (T := fun i s => T_X11_wall_73_p41 e s (nI i) I L Q) (fun k s => v = s + nI (cn (wlp t sn) k) ∧ ∀ j, j < k → (wlp t sn j && decide (nI (cn (wlp t sn) j) = v)) = false) ?_ ?_ 0 v (Nat.zero_le _) ⟨(Int32.add_zero v).symm, fun j h => absurd h (Nat.not_lt_zero _)⟩
  · intro k s hk5 ⟨hs, hj⟩ hnext
    have q2 : (512 ≤ k) = False := eq_false (by omega)
    have er := mL k hk5
    have ub := (oB k hk5).2
    have ea := h91 (k / 8) (by omega)
    have eb := h91 (k % 64) (by omega)
    have qk : 8 * (k / 8 % 8) + k % 8 = k % 64 := by omega
    have hb := hcb k
    have q0 := kd0 hs
    have hno : wlp t sn k = false → v = s + nI (cn (wlp t sn) (k + 1)) ∧ ∀ j, j < k + 1 → (wlp t sn j && decide (nI (cn (wlp t sn) j) = v)) = false := by
      intro hf
      refine ⟨by rw [cn_0 hf]; exact hs, fun j hj2 => ?_⟩
      by_cases he : j = k
      · rw [he, hf]; rfl
      · exact hj j (by omega)
    refine b_X11_wall_73_p41 ?_
    simp (disch := omega) only [pk_mul, nI_add, ksub, kdv, kd8, kd64, kd2, kd3, km8, km64, kt8, ke8, ke64, kcl, kin, kle, klt, keq, up_s, up_n, up_u, true_and, and_true, false_implies, true_implies, not_false_eq_true, not_true_eq_false, q2, er, ea, eb, qk, q0]
    refine ⟨fun h0 => hnext _ (hno (wl_3 h0)), fun h0 => ⟨fun h1 => hnext _ (hno (wl_a h1)), fun h1 => ⟨fun h2 => ⟨fun hv => ?_, fun hv => hnext _ ?_⟩, fun h2 => hnext _ (hno (wl_b (bt h2)))⟩⟩⟩
    · have hw : wlk t sn v = k := ff_eq hk5 (by rw [wl_t h0 (bt h1) h2, decide_eq_true hv]; rfl) hj
      have h5 := hQ
      unfold wlR at h5
      rw [hw, if_pos hk5] at h5
      exact h5
    · have hf := wl_t h0 (bt h1) h2
      refine ⟨by rw [cn_1 hf]; exact kdc hs, fun j hj2 => ?_⟩
      by_cases he : j = k
      · rw [he, decide_eq_false hv, Bool.and_false]
      · exact hj j (by omega)
  · intro s ⟨hs, hj⟩
    have q2 : (512 ≤ 512) = True := eq_true (Nat.le_refl _)
    refine b_X11_wall_73_p41 ?_
    simp (disch := omega) only [pk_mul, nI_add, ksub, kdv, kd8, kd64, kd2, kd3, km8, km64, kt8, ke8, ke64, kcl, kin, kle, klt, keq, up_s, up_n, up_u, true_and, and_true, false_implies, true_implies, not_false_eq_true, not_true_eq_false, q2]
    have hw : wlk t sn v = 512 := ff_no hj
    have h5 := hQ
    unfold wlR at h5
    rw [hw, if_neg (by decide)] at h5
    exact h5
theorem sn_eq {st c : Nat → Nat} {x g w w' : Nat} {f f' : Nat → Nat} {sn sn' : Nat → Bool} (h : GF st c x g f w) (h' : GF st c x g f' w') (h1 : ∀ a, a < 64 → (sn a = true ↔ RC (rS st x) (rF c f) a)) (h2 : ∀ a, a < 64 → (sn' a = true ↔ RC (rS st x) (rF c f') a)) : ∀ a, a < 64 → sn' a = sn a := by
  intro a ha
  have h3 := (h1 a ha).trans ((GF_set h h').symm.trans (h2 a ha).symm)
  cases hs : sn a <;> cases hs' : sn' a <;> rw [hs, hs'] at h3 <;> simp at h3 <;> rfl
theorem q_flow {e : am_V} {I : Nat → Nat → Int32} {L : Nat → Nat → Int64} {t : tw} {Q : Int32 → Int32 → (Nat → Nat → Int32) → Prop} {v1 : Int32} {v2 : Int32} (hC : CT t I) (hM : MT t I) (hk : tok t) (hQ : ∀ r J, fr SC FC I J → Q r r J) : C_X10_flow_0 e v1 v2 I L (fun r J => C_X11_flow_73 e v1 v2 J L (fun r' K => Q r r' K)) := by
  have hC2 := hC
  have hM2 := hM
  have hk2 := hk
  obtain ⟨c0, c1, c2, c3, c4, c5, c6, c7, c8, cS, cD, cN, cA, cT, cM, cR, cF, cO, cH, cL⟩ := hC
  obtain ⟨m0, m1, m2, m3, m4, m5, mS, mU, mL, mF, mO, mH, mA, mK⟩ := hM
  obtain ⟨o0, oT, oZ, oY, oD, o9, oN, o28, oB, oX, oE, oF, oA, oH, oU, oV⟩ := hk
  have f0 : fr SC FC I (va_up I 73 (va_up (I 73) 0 (nI 0))) := fr_73 (fr_refl _ _ _) rfl
  rcases crs v1 (t 0 0) (by omega) with ax | ⟨ax, dx⟩ | ⟨x, hx, rfl⟩
  · (refine b_X10_flow_0 ?_; simp (disch := omega) only [pk_mul, nI_add, ksub, kdv, kd8, kd64, kd2, kd3, km8, km64, kt8, ke8, ke64, kcl, kin, kle, klt, keq, up_s, up_n, up_u, true_and, and_true, false_implies, true_implies, not_false_eq_true, not_true_eq_false, ax, c0, knl]; refine b_X11_flow_73 ?_; simp (disch := omega) only [pk_mul, nI_add, ksub, kdv, kd8, kd64, kd2, kd3, km8, km64, kt8, ke8, ke64, kcl, kin, kle, klt, keq, up_s, up_n, up_u, true_and, and_true, false_implies, true_implies, not_false_eq_true, not_true_eq_false, ax, m1, kzl, kcz, knl]; exact hQ _ _ f0)
  · (refine b_X10_flow_0 ?_; simp (disch := omega) only [pk_mul, nI_add, ksub, kdv, kd8, kd64, kd2, kd3, km8, km64, kt8, ke8, ke64, kcl, kin, kle, klt, keq, up_s, up_n, up_u, true_and, and_true, false_implies, true_implies, not_false_eq_true, not_true_eq_false, ax, dx, c0, knl]; refine b_X11_flow_73 ?_; simp (disch := omega) only [pk_mul, nI_add, ksub, kdv, kd8, kd64, kd2, kd3, km8, km64, kt8, ke8, ke64, kcl, kin, kle, klt, keq, up_s, up_n, up_u, true_and, and_true, false_implies, true_implies, not_false_eq_true, not_true_eq_false, ax, dx, m1, kzl, kcz, knl]; exact hQ _ _ f0)
  · have gx : (t 0 0 ≤ x) = False := eq_false (by omega)
    rcases crs v2 (t 0 0) (by omega) with ay | ⟨ay, dy⟩ | ⟨y, hy, rfl⟩
    · (refine b_X10_flow_0 ?_; simp (disch := omega) only [pk_mul, nI_add, ksub, kdv, kd8, kd64, kd2, kd3, km8, km64, kt8, ke8, ke64, kcl, kin, kle, klt, keq, up_s, up_n, up_u, true_and, and_true, false_implies, true_implies, not_false_eq_true, not_true_eq_false, gx, ay, c0, knl]; refine b_X11_flow_73 ?_; simp (disch := omega) only [pk_mul, nI_add, ksub, kdv, kd8, kd64, kd2, kd3, km8, km64, kt8, ke8, ke64, kcl, kin, kle, klt, keq, up_s, up_n, up_u, true_and, and_true, false_implies, true_implies, not_false_eq_true, not_true_eq_false, gx, ay, m1, kzl, kcz, knl]; exact hQ _ _ f0)
    · (refine b_X10_flow_0 ?_; simp (disch := omega) only [pk_mul, nI_add, ksub, kdv, kd8, kd64, kd2, kd3, km8, km64, kt8, ke8, ke64, kcl, kin, kle, klt, keq, up_s, up_n, up_u, true_and, and_true, false_implies, true_implies, not_false_eq_true, not_true_eq_false, gx, ay, dy, c0, knl]; refine b_X11_flow_73 ?_; simp (disch := omega) only [pk_mul, nI_add, ksub, kdv, kd8, kd64, kd2, kd3, km8, km64, kt8, ke8, ke64, kcl, kin, kle, klt, keq, up_s, up_n, up_u, true_and, and_true, false_implies, true_implies, not_false_eq_true, not_true_eq_false, gx, ay, dy, m1, kzl, kcz, knl]; exact hQ _ _ f0)
    · have gy : (t 0 0 ≤ y) = False := eq_false (by omega)
      have e1 := cS (8 * x + y) (by omega)
      have e2 := mS (8 * x + y) (by omega)
      have u1 := o9 (8 * x + y) (by omega)
      by_cases hxy : x = y
      · have q1 : (x = y) = True := eq_true hxy
        refine b_X10_flow_0 ?_
        simp (disch := omega) only [pk_mul, nI_add, ksub, kdv, kd8, kd64, kd2, kd3, km8, km64, kt8, ke8, ke64, kcl, kin, kle, klt, keq, up_s, up_n, up_u, true_and, and_true, false_implies, true_implies, not_false_eq_true, not_true_eq_false, c0, knl, q1, gx, gy]
        refine b_X11_flow_73 ?_
        simp (disch := omega) only [pk_mul, nI_add, ksub, kdv, kd8, kd64, kd2, kd3, km8, km64, kt8, ke8, ke64, kcl, kin, kle, klt, keq, up_s, up_n, up_u, true_and, and_true, false_implies, true_implies, not_false_eq_true, not_true_eq_false, m1, kzl, kcz, knl, q1, gx, gy]
        exact hQ _ _ f0
      · have q1 : (x = y) = False := eq_false hxy
        by_cases h1 : t 1 (8 * x + y) ≤ 0
        · have q2 := eq_true h1
          refine b_X10_flow_0 ?_
          simp (disch := omega) only [pk_mul, nI_add, ksub, kdv, kd8, kd64, kd2, kd3, km8, km64, kt8, ke8, ke64, kcl, kin, kle, klt, keq, up_s, up_n, up_u, true_and, and_true, false_implies, true_implies, not_false_eq_true, not_true_eq_false, c0, knl, q1, q2, e1, gx, gy]
          refine c_flowfill hC2 hk2 (by omega) (by omega) (by omega) (fun J f w sn fJ hG hw j5 j45 jr => ?_)
          have CJ := fr_CT fJ hC2 rfl
          have MJ := fr_MT fJ hM2 rfl
          have m1J := MJ.2.1
          have e2J := MJ.2.2.2.2.2.2.1 (8 * x + y) (by omega)
          have hm : ∀ Q2 : Int32 → (Nat → Nat → Int32) → Prop, (∀ K, fr SC FC I K → Q2 (nI w) K) → C_X11_flow_73 e (nI x) (nI y) J L Q2 := by
            intro Q2 hQ2
            refine b_X11_flow_73 ?_
            simp (disch := omega) only [pk_mul, nI_add, ksub, kdv, kd8, kd64, kd2, kd3, km8, km64, kt8, ke8, ke64, kcl, kin, kle, klt, keq, up_s, up_n, up_u, true_and, and_true, false_implies, true_implies, not_false_eq_true, not_true_eq_false, m1J, kzl, kcz, knl, q1, q2, e2J, gx, gy]
            refine c_flowsTo (MT_0 MJ) hk2 (by omega) (by omega) (by omega) (fun K f' w' sn' fK hG' hw' k91 kr => ?_)
            have fin := hQ2 K (fr_q1 fJ fK rfl rfl rfl rfl)
            rw [GF_eq hG hG'] at fin
            exact fin
          rw [j5]
          exact hm _ (fun K fK => hQ _ _ fK)
        · have q2 := eq_false h1
          refine b_X10_flow_0 ?_
          simp (disch := omega) only [pk_mul, nI_add, ksub, kdv, kd8, kd64, kd2, kd3, km8, km64, kt8, ke8, ke64, kcl, kin, kle, klt, keq, up_s, up_n, up_u, true_and, and_true, false_implies, true_implies, not_false_eq_true, not_true_eq_false, c0, knl, q1, q2, e1, gx, gy]
          refine b_X11_flow_73 ?_
          simp (disch := omega) only [pk_mul, nI_add, ksub, kdv, kd8, kd64, kd2, kd3, km8, km64, kt8, ke8, ke64, kcl, kin, kle, klt, keq, up_s, up_n, up_u, true_and, and_true, false_implies, true_implies, not_false_eq_true, not_true_eq_false, m1, kzl, kcz, knl, q1, q2, e2, gx, gy]
          exact hQ _ _ f0
theorem q_cut {e : am_V} {I : Nat → Nat → Int32} {L : Nat → Nat → Int64} {t : tw} {Q : Int32 → Int32 → (Nat → Nat → Int32) → Prop} {v1 : Int32} {v2 : Int32} (hC : CT t I) (hM : MT t I) (hk : tok t) (hQ : ∀ r J, fr SC FC I J → Q r r J) : C_X10_cut_0 e v1 v2 I L (fun r J => C_X11_cut__73 e v1 v2 J L (fun r' K => Q r r' K)) := by
  have hC2 := hC
  have hM2 := hM
  have hk2 := hk
  obtain ⟨c0, c1, c2, c3, c4, c5, c6, c7, c8, cS, cD, cN, cA, cT, cM, cR, cF, cO, cH, cL⟩ := hC
  obtain ⟨m0, m1, m2, m3, m4, m5, mS, mU, mL, mF, mO, mH, mA, mK⟩ := hM
  obtain ⟨o0, oT, oZ, oY, oD, o9, oN, o28, oB, oX, oE, oF, oA, oH, oU, oV⟩ := hk
  have f0 : fr SC FC I (va_up I 73 (va_up (I 73) 0 (nI 0))) := fr_73 (fr_refl _ _ _) rfl
  rcases crs v1 (t 0 0) (by omega) with ax | ⟨ax, dx⟩ | ⟨x, hx, rfl⟩
  · (refine b_X10_cut_0 ?_; simp (disch := omega) only [pk_mul, nI_add, ksub, kdv, kd8, kd64, kd2, kd3, km8, km64, kt8, ke8, ke64, kcl, kin, kle, klt, keq, up_s, up_n, up_u, true_and, and_true, false_implies, true_implies, not_false_eq_true, not_true_eq_false, ax, c0, knl]; refine b_X11_cut__73 ?_; simp (disch := omega) only [pk_mul, nI_add, ksub, kdv, kd8, kd64, kd2, kd3, km8, km64, kt8, ke8, ke64, kcl, kin, kle, klt, keq, up_s, up_n, up_u, true_and, and_true, false_implies, true_implies, not_false_eq_true, not_true_eq_false, ax, m1, kzl, kcz, knl]; exact hQ _ _ f0)
  · (refine b_X10_cut_0 ?_; simp (disch := omega) only [pk_mul, nI_add, ksub, kdv, kd8, kd64, kd2, kd3, km8, km64, kt8, ke8, ke64, kcl, kin, kle, klt, keq, up_s, up_n, up_u, true_and, and_true, false_implies, true_implies, not_false_eq_true, not_true_eq_false, ax, dx, c0, knl]; refine b_X11_cut__73 ?_; simp (disch := omega) only [pk_mul, nI_add, ksub, kdv, kd8, kd64, kd2, kd3, km8, km64, kt8, ke8, ke64, kcl, kin, kle, klt, keq, up_s, up_n, up_u, true_and, and_true, false_implies, true_implies, not_false_eq_true, not_true_eq_false, ax, dx, m1, kzl, kcz, knl]; exact hQ _ _ f0)
  · have gx : (t 0 0 ≤ x) = False := eq_false (by omega)
    rcases crs v2 (t 0 0) (by omega) with ay | ⟨ay, dy⟩ | ⟨y, hy, rfl⟩
    · (refine b_X10_cut_0 ?_; simp (disch := omega) only [pk_mul, nI_add, ksub, kdv, kd8, kd64, kd2, kd3, km8, km64, kt8, ke8, ke64, kcl, kin, kle, klt, keq, up_s, up_n, up_u, true_and, and_true, false_implies, true_implies, not_false_eq_true, not_true_eq_false, gx, ay, c0, knl]; refine b_X11_cut__73 ?_; simp (disch := omega) only [pk_mul, nI_add, ksub, kdv, kd8, kd64, kd2, kd3, km8, km64, kt8, ke8, ke64, kcl, kin, kle, klt, keq, up_s, up_n, up_u, true_and, and_true, false_implies, true_implies, not_false_eq_true, not_true_eq_false, gx, ay, m1, kzl, kcz, knl]; exact hQ _ _ f0)
    · (refine b_X10_cut_0 ?_; simp (disch := omega) only [pk_mul, nI_add, ksub, kdv, kd8, kd64, kd2, kd3, km8, km64, kt8, ke8, ke64, kcl, kin, kle, klt, keq, up_s, up_n, up_u, true_and, and_true, false_implies, true_implies, not_false_eq_true, not_true_eq_false, gx, ay, dy, c0, knl]; refine b_X11_cut__73 ?_; simp (disch := omega) only [pk_mul, nI_add, ksub, kdv, kd8, kd64, kd2, kd3, km8, km64, kt8, ke8, ke64, kcl, kin, kle, klt, keq, up_s, up_n, up_u, true_and, and_true, false_implies, true_implies, not_false_eq_true, not_true_eq_false, gx, ay, dy, m1, kzl, kcz, knl]; exact hQ _ _ f0)
    · have gy : (t 0 0 ≤ y) = False := eq_false (by omega)
      have e1 := cS (8 * x + y) (by omega)
      have e2 := mS (8 * x + y) (by omega)
      have u1 := o9 (8 * x + y) (by omega)
      by_cases hxy : x = y
      · have q1 : (x = y) = True := eq_true hxy
        refine b_X10_cut_0 ?_
        simp (disch := omega) only [pk_mul, nI_add, ksub, kdv, kd8, kd64, kd2, kd3, km8, km64, kt8, ke8, ke64, kcl, kin, kle, klt, keq, up_s, up_n, up_u, true_and, and_true, false_implies, true_implies, not_false_eq_true, not_true_eq_false, c0, knl, q1, gx, gy]
        refine b_X11_cut__73 ?_
        simp (disch := omega) only [pk_mul, nI_add, ksub, kdv, kd8, kd64, kd2, kd3, km8, km64, kt8, ke8, ke64, kcl, kin, kle, klt, keq, up_s, up_n, up_u, true_and, and_true, false_implies, true_implies, not_false_eq_true, not_true_eq_false, m1, kzl, kcz, knl, q1, gx, gy]
        exact hQ _ _ f0
      · have q1 : (x = y) = False := eq_false hxy
        by_cases h1 : t 1 (8 * x + y) ≤ 0
        · have q2 := eq_true h1
          refine b_X10_cut_0 ?_
          simp (disch := omega) only [pk_mul, nI_add, ksub, kdv, kd8, kd64, kd2, kd3, km8, km64, kt8, ke8, ke64, kcl, kin, kle, klt, keq, up_s, up_n, up_u, true_and, and_true, false_implies, true_implies, not_false_eq_true, not_true_eq_false, c0, knl, q1, q2, e1, gx, gy]
          refine c_flowfill hC2 hk2 (by omega) (by omega) (by omega) (fun J f w sn fJ hG hw j5 j45 jr => ?_)
          have CJ := fr_CT fJ hC2 rfl
          have MJ := fr_MT fJ hM2 rfl
          have m1J := MJ.2.1
          have e2J := MJ.2.2.2.2.2.2.1 (8 * x + y) (by omega)
          have hm : ∀ Q2 : Int32 → (Nat → Nat → Int32) → Prop, (∀ K, fr SC FC I K → Q2 (nI (cn (wlp t sn) 512)) K) → C_X11_cut__73 e (nI x) (nI y) J L Q2 := by
            intro Q2 hQ2
            refine b_X11_cut__73 ?_
            simp (disch := omega) only [pk_mul, nI_add, ksub, kdv, kd8, kd64, kd2, kd3, km8, km64, kt8, ke8, ke64, kcl, kin, kle, klt, keq, up_s, up_n, up_u, true_and, and_true, false_implies, true_implies, not_false_eq_true, not_true_eq_false, m1J, kzl, kcz, knl, q1, q2, e2J, gx, gy]
            refine c_flowsTo (MT_0 MJ) hk2 (by omega) (by omega) (by omega) (fun K f' w' sn' fK hG' hw' k91 kr => ?_)
            have fin := hQ2 K (fr_q1 fJ fK rfl rfl rfl rfl)
            rw [cn_c (fun k hk5 => wlp_c (fun a ha => (sn_eq hG hG' jr kr a ha).symm) hk5)] at fin
            exact c_mcut (fr_MT fK (MT_0 MJ) rfl) hk2 k91 fin
          refine c_cutTurns CJ hk2 j45 ?_
          exact hm _ (fun K fK => hQ _ _ fK)
        · have q2 := eq_false h1
          refine b_X10_cut_0 ?_
          simp (disch := omega) only [pk_mul, nI_add, ksub, kdv, kd8, kd64, kd2, kd3, km8, km64, kt8, ke8, ke64, kcl, kin, kle, klt, keq, up_s, up_n, up_u, true_and, and_true, false_implies, true_implies, not_false_eq_true, not_true_eq_false, c0, knl, q1, q2, e1, gx, gy]
          refine b_X11_cut__73 ?_
          simp (disch := omega) only [pk_mul, nI_add, ksub, kdv, kd8, kd64, kd2, kd3, km8, km64, kt8, ke8, ke64, kcl, kin, kle, klt, keq, up_s, up_n, up_u, true_and, and_true, false_implies, true_implies, not_false_eq_true, not_true_eq_false, m1, kzl, kcz, knl, q1, q2, e2, gx, gy]
          exact hQ _ _ f0
theorem q_wall {e : am_V} {I : Nat → Nat → Int32} {L : Nat → Nat → Int64} {t : tw} {Q : Int32 → Int32 → (Nat → Nat → Int32) → Prop} {v1 : Int32} {v2 : Int32} {v3 : Int32} (hC : CT t I) (hM : MT t I) (hk : tok t) (hQ : ∀ r J, fr SC FC I J → Q r r J) : C_X10_wall_0 e v1 v2 v3 I L (fun r J => C_X11_wall_73 e v1 v2 v3 J L (fun r' K => Q r r' K)) := by
  have hC2 := hC
  have hM2 := hM
  have hk2 := hk
  obtain ⟨c0, c1, c2, c3, c4, c5, c6, c7, c8, cS, cD, cN, cA, cT, cM, cR, cF, cO, cH, cL⟩ := hC
  obtain ⟨m0, m1, m2, m3, m4, m5, mS, mU, mL, mF, mO, mH, mA, mK⟩ := hM
  obtain ⟨o0, oT, oZ, oY, oD, o9, oN, o28, oB, oX, oE, oF, oA, oH, oU, oV⟩ := hk
  have f0 : fr SC FC I (va_up I 73 (va_up (I 73) 0 (nI 0))) := fr_73 (fr_refl _ _ _) rfl
  rcases crs v1 (t 0 0) (by omega) with ax | ⟨ax, dx⟩ | ⟨x, hx, rfl⟩
  · (refine b_X10_wall_0 ?_; simp (disch := omega) only [pk_mul, nI_add, ksub, kdv, kd8, kd64, kd2, kd3, km8, km64, kt8, ke8, ke64, kcl, kin, kle, klt, keq, up_s, up_n, up_u, true_and, and_true, false_implies, true_implies, not_false_eq_true, not_true_eq_false, ax, c0, knl]; refine b_X11_wall_73 ?_; simp (disch := omega) only [pk_mul, nI_add, ksub, kdv, kd8, kd64, kd2, kd3, km8, km64, kt8, ke8, ke64, kcl, kin, kle, klt, keq, up_s, up_n, up_u, true_and, and_true, false_implies, true_implies, not_false_eq_true, not_true_eq_false, ax, m1, kzl, kcz, knl]; exact hQ _ _ f0)
  · (refine b_X10_wall_0 ?_; simp (disch := omega) only [pk_mul, nI_add, ksub, kdv, kd8, kd64, kd2, kd3, km8, km64, kt8, ke8, ke64, kcl, kin, kle, klt, keq, up_s, up_n, up_u, true_and, and_true, false_implies, true_implies, not_false_eq_true, not_true_eq_false, ax, dx, c0, knl]; refine b_X11_wall_73 ?_; simp (disch := omega) only [pk_mul, nI_add, ksub, kdv, kd8, kd64, kd2, kd3, km8, km64, kt8, ke8, ke64, kcl, kin, kle, klt, keq, up_s, up_n, up_u, true_and, and_true, false_implies, true_implies, not_false_eq_true, not_true_eq_false, ax, dx, m1, kzl, kcz, knl]; exact hQ _ _ f0)
  · have gx : (t 0 0 ≤ x) = False := eq_false (by omega)
    rcases crs v2 (t 0 0) (by omega) with ay | ⟨ay, dy⟩ | ⟨y, hy, rfl⟩
    · (refine b_X10_wall_0 ?_; simp (disch := omega) only [pk_mul, nI_add, ksub, kdv, kd8, kd64, kd2, kd3, km8, km64, kt8, ke8, ke64, kcl, kin, kle, klt, keq, up_s, up_n, up_u, true_and, and_true, false_implies, true_implies, not_false_eq_true, not_true_eq_false, gx, ay, c0, knl]; refine b_X11_wall_73 ?_; simp (disch := omega) only [pk_mul, nI_add, ksub, kdv, kd8, kd64, kd2, kd3, km8, km64, kt8, ke8, ke64, kcl, kin, kle, klt, keq, up_s, up_n, up_u, true_and, and_true, false_implies, true_implies, not_false_eq_true, not_true_eq_false, gx, ay, m1, kzl, kcz, knl]; exact hQ _ _ f0)
    · (refine b_X10_wall_0 ?_; simp (disch := omega) only [pk_mul, nI_add, ksub, kdv, kd8, kd64, kd2, kd3, km8, km64, kt8, ke8, ke64, kcl, kin, kle, klt, keq, up_s, up_n, up_u, true_and, and_true, false_implies, true_implies, not_false_eq_true, not_true_eq_false, gx, ay, dy, c0, knl]; refine b_X11_wall_73 ?_; simp (disch := omega) only [pk_mul, nI_add, ksub, kdv, kd8, kd64, kd2, kd3, km8, km64, kt8, ke8, ke64, kcl, kin, kle, klt, keq, up_s, up_n, up_u, true_and, and_true, false_implies, true_implies, not_false_eq_true, not_true_eq_false, gx, ay, dy, m1, kzl, kcz, knl]; exact hQ _ _ f0)
    · have gy : (t 0 0 ≤ y) = False := eq_false (by omega)
      have e1 := cS (8 * x + y) (by omega)
      have e2 := mS (8 * x + y) (by omega)
      have u1 := o9 (8 * x + y) (by omega)
      by_cases hxy : x = y
      · have q1 : (x = y) = True := eq_true hxy
        refine b_X10_wall_0 ?_
        simp (disch := omega) only [pk_mul, nI_add, ksub, kdv, kd8, kd64, kd2, kd3, km8, km64, kt8, ke8, ke64, kcl, kin, kle, klt, keq, up_s, up_n, up_u, true_and, and_true, false_implies, true_implies, not_false_eq_true, not_true_eq_false, c0, knl, q1, gx, gy]
        refine b_X11_wall_73 ?_
        simp (disch := omega) only [pk_mul, nI_add, ksub, kdv, kd8, kd64, kd2, kd3, km8, km64, kt8, ke8, ke64, kcl, kin, kle, klt, keq, up_s, up_n, up_u, true_and, and_true, false_implies, true_implies, not_false_eq_true, not_true_eq_false, m1, kzl, kcz, knl, q1, gx, gy]
        exact hQ _ _ f0
      · have q1 : (x = y) = False := eq_false hxy
        by_cases h1 : t 1 (8 * x + y) ≤ 0
        · have q2 := eq_true h1
          refine b_X10_wall_0 ?_
          simp (disch := omega) only [pk_mul, nI_add, ksub, kdv, kd8, kd64, kd2, kd3, km8, km64, kt8, ke8, ke64, kcl, kin, kle, klt, keq, up_s, up_n, up_u, true_and, and_true, false_implies, true_implies, not_false_eq_true, not_true_eq_false, c0, knl, q1, q2, e1, gx, gy]
          refine c_flowfill hC2 hk2 (by omega) (by omega) (by omega) (fun J f w sn fJ hG hw j5 j45 jr => ?_)
          have CJ := fr_CT fJ hC2 rfl
          have MJ := fr_MT fJ hM2 rfl
          have m1J := MJ.2.1
          have e2J := MJ.2.2.2.2.2.2.1 (8 * x + y) (by omega)
          have hm : ∀ Q2 : Int32 → (Nat → Nat → Int32) → Prop, (∀ K, fr SC FC I K → Q2 (wlR t sn v3) K) → C_X11_wall_73 e (nI x) (nI y) v3 J L Q2 := by
            intro Q2 hQ2
            refine b_X11_wall_73 ?_
            simp (disch := omega) only [pk_mul, nI_add, ksub, kdv, kd8, kd64, kd2, kd3, km8, km64, kt8, ke8, ke64, kcl, kin, kle, klt, keq, up_s, up_n, up_u, true_and, and_true, false_implies, true_implies, not_false_eq_true, not_true_eq_false, m1J, kzl, kcz, knl, q1, q2, e2J, gx, gy]
            refine c_flowsTo (MT_0 MJ) hk2 (by omega) (by omega) (by omega) (fun K f' w' sn' fK hG' hw' k91 kr => ?_)
            have fin := hQ2 K (fr_q1 fJ fK rfl rfl rfl rfl)
            rw [wlR_c (fun a ha => (sn_eq hG hG' jr kr a ha).symm)] at fin
            exact c_mwall (fr_MT fK (MT_0 MJ) rfl) hk2 k91 fin
          refine c_cutTurn CJ hk2 j45 ?_
          exact hm _ (fun K fK => hQ _ _ fK)
        · have q2 := eq_false h1
          refine b_X10_wall_0 ?_
          simp (disch := omega) only [pk_mul, nI_add, ksub, kdv, kd8, kd64, kd2, kd3, km8, km64, kt8, ke8, ke64, kcl, kin, kle, klt, keq, up_s, up_n, up_u, true_and, and_true, false_implies, true_implies, not_false_eq_true, not_true_eq_false, c0, knl, q1, q2, e1, gx, gy]
          refine b_X11_wall_73 ?_
          simp (disch := omega) only [pk_mul, nI_add, ksub, kdv, kd8, kd64, kd2, kd3, km8, km64, kt8, ke8, ke64, kcl, kin, kle, klt, keq, up_s, up_n, up_u, true_and, and_true, false_implies, true_implies, not_false_eq_true, not_true_eq_false, m1, kzl, kcz, knl, q1, q2, e2, gx, gy]
          exact hQ _ _ f0
