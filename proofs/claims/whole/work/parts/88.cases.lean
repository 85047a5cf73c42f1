/-! the law: each call and its pair -/
theorem am_T_b {P : Nat → am_MI} {d mi pc cb sb cb' sb' : Nat} {lv : am_LV} {st : List Value} {σ : am_S} {Post : Option Value → am_S → Prop} (h : am_T P d mi pc lv st σ cb sb Post) (hc : cb ≤ cb') (hs : sb ≤ sb') : am_T P d mi pc lv st σ cb' sb' Post := by
  intro G p l e R s mm args below meth c H locs cells slots Q ls C h1 h2 h3 h4 h5 h6 h7 h8 h9 hr
  exact h G p l e R s mm args below meth c H locs cells slots Q ls C h1 h2 (by omega) (by omega) h5 h6 h7 h8 h9 hr
/-- the script stays as it is -/
theorem am_C_old {P : Nat → am_MI} {d mi cb sb : Nat} {as : List Value} {σ : am_S} {Post : Option Value → am_S → Prop} (h : am_C P d mi as σ cb sb Post) : am_C P d mi as σ cb sb (fun v σ' => Post v σ' ∧ am_I σ' am_old = am_I σ am_old) := by
  intro G p l e R s mm args below meth c H locs cells slots Q ls C h1 h2 h3 h4 h5 h6 h7 h8 h9 hr
  refine h G p l e R s mm args below meth c H locs cells slots Q ls C h1 h2 h3 h4 h5 h6 h7 h8 h9 (fun v σ' pc' ls' H' locs' cells' slots' hP hR' => hr v σ' pc' ls' H' locs' cells' slots' ⟨hP, ?_⟩ hR')
  exact hR'.2.2.2.2.1.trans h5.2.2.2.2.1.symm
theorem am_C_oldR {P : Nat → am_MI} {d mi cb sb : Nat} {as : List Value} {σ : am_S} {Post : Option Value → am_S → Prop} (h : am_C P d mi as σ cb sb Post) : am_C P d mi as σ cb sb (fun v σ' => Post v σ' ∧ am_I σ' am_old = am_I σ am_old ∧ am_R σ' am_old 0 = am_R σ am_old 0) := by
  intro G p l e R s mm args below meth c H locs cells slots Q ls C h1 h2 h3 h4 h5 h6 h7 h8 h9 hr
  refine h G p l e R s mm args below meth c H locs cells slots Q ls C h1 h2 h3 h4 h5 h6 h7 h8 h9 (fun v σ' pc' ls' H' locs' cells' slots' hP hR' => hr v σ' pc' ls' H' locs' cells' slots' ⟨hP, ?_, ?_⟩ hR')
  · exact hR'.2.2.2.2.1.trans h5.2.2.2.2.1.symm
  · exact hR'.2.2.2.2.2.trans h5.2.2.2.2.2.symm
section LO
variable {P : Nat → am_MI} {d mi cb sb : Nat} {as : List Value} {Post : Option Value → am_S → Prop} {e : am_V} {I : Nat → Nat → Int32} {L : Nat → Nat → Int64}
theorem am_cIo {Q : Int32 → (Nat → Nat → Int32) → Prop} (h : am_C P d mi as (am_st e I L) cb sb (am_pI e L Q)) (m : ∀ r J, Q r J → J am_old = I am_old → Post (some (.int r)) (am_st e J L)) : am_C P d mi as (am_st e I L) cb sb Post := am_C_m (am_C_old h) (by
  rintro v σ ⟨⟨r, J, rfl, rfl, h⟩, ho⟩
  exact m r J h ho)
theorem am_cILo {Q : Int32 → (Nat → Nat → Int32) → (Nat → Nat → Int64) → Prop} (h : am_C P d mi as (am_st e I L) cb sb (am_pIL e Q)) (m : ∀ r J M, Q r J M → J am_old = I am_old → Post (some (.int r)) (am_st e J M)) : am_C P d mi as (am_st e I L) cb sb Post := am_C_m (am_C_old h) (by
  rintro v σ ⟨⟨r, J, M, rfl, rfl, h⟩, ho⟩
  exact m r J M h ho)
end LO
def LV (i : Int32) : am_LV := [(0, .ref am_old), (1, .ref 0), (2, .ref 73), (3, .int i)]
/-- what a pair of calls leaves -/
def PQ (e : am_V) (m : Nat) : Int32 → Int32 → (Nat → Nat → Int32) → (Nat → Nat → Int64) → Prop := fun r r' K M => r = r' ∧ ∃ t, Rel Bt e t K M (m + 1)
theorem Rel_s1 {e : am_V} {t : tw} {I : Nat → Nat → Int32} {L : Nat → Nat → Int64} {m : Nat} (h : Rel Bt e t I L m) : Rel Bt e t I L (m + 1) := Rel_q h (fr_refl _ _ _) (frL_r _) (Nat.le_succ _)
set_option maxRecDepth 100000 in
theorem lc_0 {e : am_V} {I : Nat → Nat → Int32} {L : Nat → Nat → Int64} {t : tw} {m cb sb : Nat} {i : Int32} {Post : Option Value → am_S → Prop} (hR : Rel Bt e t I L m) (hm : m < 1000000) (hv : ∀ k, k < 6 → vp_in (i + nI k) e.2.1) (hN : ∀ e' t' K M, e'.2.1 = e.2.1 → Rel Bt e' t' K M (m + 1) → am_T am_P 400 mi_L_law 2403 (LV i) [] (am_st e' K M) cb sb Post) : am_T am_P 400 mi_L_law 308 (LV i) [] (am_st e I L) cb sb Post := by
  refine am_run_rows am_OK am_lr [2403] 80 _ _ _ _ _ _ ?_
  refine And.intro ⟨_, rfl, hv 1 (by decide)⟩ (And.intro ⟨_, rfl, hv 2 (by decide)⟩ (And.intro ⟨_, rfl, hv 3 (by decide)⟩ (And.intro ⟨_, rfl, hv 4 (by decide)⟩ (And.intro ⟨_, rfl, hv 5 (by decide)⟩ (Exists.intro 0 (Exists.intro 0 (And.intro (Nat.zero_le _) (And.intro (Nat.zero_le _) ?_))))))))
  refine am_cIo (am_C_d (r_feed (Q := fun r r' K => PQ e m r r' K L) hR (fun r J h => ⟨rfl, t, Rel_s1 h⟩)) (by decide)) (fun r J h ho => ?_)
  refine And.intro ⟨_, rfl, hv 1 (by decide)⟩ (And.intro ⟨_, rfl, hv 2 (by decide)⟩ (And.intro ⟨_, rfl, hv 3 (by decide)⟩ (And.intro ⟨_, rfl, hv 4 (by decide)⟩ (And.intro ⟨_, rfl, hv 5 (by decide)⟩ (Exists.intro 0 (Exists.intro 0 (And.intro (Nat.zero_le _) (And.intro (Nat.zero_le _) ?_))))))))
  show am_C am_P 399 mi_X11_feed [.ref 73, .int (J am_old (i + nI 1).toNatClampNeg), .int (J am_old (i + nI 2).toNatClampNeg), .int (J am_old (i + nI 3).toNatClampNeg), .int (J am_old (i + nI 4).toNatClampNeg), .int (J am_old (i + nI 5).toNatClampNeg)] (am_st e J L) 0 0 _
  rw [ho]
  exact am_cI (am_C_d h (by decide)) (fun r' K h2 => And.intro (fun _ => And.intro (am_T_lv (hN e h2.2.choose K L rfl h2.2.choose_spec) ⟨rfl, rfl, rfl, rfl, trivial⟩) trivial) (fun q => absurd h2.1 q))
set_option maxRecDepth 100000 in
theorem lc_1 {e : am_V} {I : Nat → Nat → Int32} {L : Nat → Nat → Int64} {t : tw} {m cb sb : Nat} {i : Int32} {Post : Option Value → am_S → Prop} (hR : Rel Bt e t I L m) (hm : m < 1000000) (hv : ∀ k, k < 6 → vp_in (i + nI k) e.2.1) (hN : ∀ e' t' K M, e'.2.1 = e.2.1 → Rel Bt e' t' K M (m + 1) → am_T am_P 400 mi_L_law 2403 (LV i) [] (am_st e' K M) cb sb Post) : am_T am_P 400 mi_L_law 371 (LV i) [] (am_st e I L) cb sb Post := by
  refine am_run_rows am_OK am_lr [2403] 80 _ _ _ _ _ _ ?_
  refine And.intro ⟨_, rfl, hv 1 (by decide)⟩ (Exists.intro 0 (Exists.intro 0 (And.intro (Nat.zero_le _) (And.intro (Nat.zero_le _) ?_))))
  refine am_cIo (am_C_d (r_end (Q := fun r r' K => PQ e m r r' K L) hR (fun r J h => ⟨rfl, t, Rel_s1 h⟩)) (by decide)) (fun r J h ho => ?_)
  refine And.intro ⟨_, rfl, hv 1 (by decide)⟩ (Exists.intro 0 (Exists.intro 0 (And.intro (Nat.zero_le _) (And.intro (Nat.zero_le _) ?_))))
  show am_C am_P 399 mi_X11_end [.ref 73, .int (J am_old (i + nI 1).toNatClampNeg)] (am_st e J L) 0 0 _
  rw [ho]
  exact am_cI (am_C_d h (by decide)) (fun r' K h2 => And.intro (fun _ => And.intro (am_T_lv (hN e h2.2.choose K L rfl h2.2.choose_spec) ⟨rfl, rfl, rfl, rfl, trivial⟩) trivial) (fun q => absurd h2.1 q))
set_option maxRecDepth 100000 in
theorem lc_2 {e : am_V} {I : Nat → Nat → Int32} {L : Nat → Nat → Int64} {t : tw} {m cb sb : Nat} {i : Int32} {Post : Option Value → am_S → Prop} (hR : Rel Bt e t I L m) (hm : m < 1000000) (hv : ∀ k, k < 6 → vp_in (i + nI k) e.2.1) (hN : ∀ e' t' K M, e'.2.1 = e.2.1 → Rel Bt e' t' K M (m + 1) → am_T am_P 400 mi_L_law 2403 (LV i) [] (am_st e' K M) cb sb Post) : am_T am_P 400 mi_L_law 394 (LV i) [] (am_st e I L) cb sb Post := by
  refine am_run_rows am_OK am_lr [2403] 80 _ _ _ _ _ _ ?_
  refine Exists.intro 0 (Exists.intro 0 (And.intro (Nat.zero_le _) (And.intro (Nat.zero_le _) ?_)))
  refine am_cIo (am_C_d (r_town (Q := PQ e m) hR hm (fun r J t' M _ _ h => ⟨rfl, t', h⟩)) (by decide)) (fun r J h ho => ?_)
  refine Exists.intro 0 (Exists.intro 0 (And.intro (Nat.zero_le _) (And.intro (Nat.zero_le _) ?_)))
  show am_C am_P 399 mi_X11_town [.ref 73] (am_st e J L) 0 0 _
  exact am_cIL (am_C_d h (by decide)) (fun r' K N h2 => And.intro (fun _ => And.intro (am_T_lv (hN e h2.2.choose K N rfl h2.2.choose_spec) ⟨rfl, rfl, rfl, rfl, trivial⟩) trivial) (fun q => absurd h2.1 q))
set_option maxRecDepth 100000 in
theorem lc_3 {e : am_V} {I : Nat → Nat → Int32} {L : Nat → Nat → Int64} {t : tw} {m cb sb : Nat} {i : Int32} {Post : Option Value → am_S → Prop} (hR : Rel Bt e t I L m) (hm : m < 1000000) (hv : ∀ k, k < 6 → vp_in (i + nI k) e.2.1) (hN : ∀ e' t' K M, e'.2.1 = e.2.1 → Rel Bt e' t' K M (m + 1) → am_T am_P 400 mi_L_law 2403 (LV i) [] (am_st e' K M) cb sb Post) : am_T am_P 400 mi_L_law 407 (LV i) [] (am_st e I L) cb sb Post := by
  refine am_run_rows am_OK am_lr [2403] 80 _ _ _ _ _ _ ?_
  refine And.intro ⟨_, rfl, hv 1 (by decide)⟩ (Exists.intro 0 (Exists.intro 0 (And.intro (Nat.zero_le _) (And.intro (Nat.zero_le _) ?_))))
  refine am_cIo (am_C_d (r_fault (Q := fun r r' K => PQ e m r r' K L) hR (fun r J h => ⟨rfl, t, Rel_s1 h⟩)) (by decide)) (fun r J h ho => ?_)
  refine And.intro ⟨_, rfl, hv 1 (by decide)⟩ (Exists.intro 0 (Exists.intro 0 (And.intro (Nat.zero_le _) (And.intro (Nat.zero_le _) ?_))))
  show am_C am_P 399 mi_X11_fault [.ref 73, .int (J am_old (i + nI 1).toNatClampNeg)] (am_st e J L) 0 0 _
  rw [ho]
  exact am_cI (am_C_d h (by decide)) (fun r' K h2 => And.intro (fun _ => And.intro (am_T_lv (hN e h2.2.choose K L rfl h2.2.choose_spec) ⟨rfl, rfl, rfl, rfl, trivial⟩) trivial) (fun q => absurd h2.1 q))
set_option maxRecDepth 100000 in
theorem lc_4 {e : am_V} {I : Nat → Nat → Int32} {L : Nat → Nat → Int64} {t : tw} {m cb sb : Nat} {i : Int32} {Post : Option Value → am_S → Prop} (hR : Rel Bt e t I L m) (hm : m < 1000000) (hv : ∀ k, k < 6 → vp_in (i + nI k) e.2.1) (hN : ∀ e' t' K M, e'.2.1 = e.2.1 → Rel Bt e' t' K M (m + 1) → am_T am_P 400 mi_L_law 2403 (LV i) [] (am_st e' K M) cb sb Post) : am_T am_P 400 mi_L_law 430 (LV i) [] (am_st e I L) cb sb Post := by
  refine am_run_rows am_OK am_lr [2403] 80 _ _ _ _ _ _ ?_
  refine And.intro ⟨_, rfl, hv 1 (by decide)⟩ (And.intro ⟨_, rfl, hv 2 (by decide)⟩ (Exists.intro 0 (Exists.intro 0 (And.intro (Nat.zero_le _) (And.intro (Nat.zero_le _) ?_)))))
  refine am_cIo (am_C_d (q_street (Q := fun r r' K => PQ e m r r' K L) hR.2.1 hR.2.2.1 hR.1 (fun r J f => ⟨rfl, t, Rel_q hR f (frL_r L) (Nat.le_succ _)⟩)) (by decide)) (fun r J h ho => ?_)
  refine And.intro ⟨_, rfl, hv 1 (by decide)⟩ (And.intro ⟨_, rfl, hv 2 (by decide)⟩ (Exists.intro 0 (Exists.intro 0 (And.intro (Nat.zero_le _) (And.intro (Nat.zero_le _) ?_)))))
  show am_C am_P 399 mi_X11_street [.ref 73, .int (J am_old (i + nI 1).toNatClampNeg), .int (J am_old (i + nI 2).toNatClampNeg)] (am_st e J L) 0 0 _
  rw [ho]
  exact am_cI (am_C_d h (by decide)) (fun r' K h2 => And.intro (fun _ => And.intro (am_T_lv (hN e h2.2.choose K L rfl h2.2.choose_spec) ⟨rfl, rfl, rfl, rfl, trivial⟩) trivial) (fun q => absurd h2.1 q))
set_option maxRecDepth 100000 in
theorem lc_5 {e : am_V} {I : Nat → Nat → Int32} {L : Nat → Nat → Int64} {t : tw} {m cb sb : Nat} {i : Int32} {Post : Option Value → am_S → Prop} (hR : Rel Bt e t I L m) (hm : m < 1000000) (hv : ∀ k, k < 6 → vp_in (i + nI k) e.2.1) (hN : ∀ e' t' K M, e'.2.1 = e.2.1 → Rel Bt e' t' K M (m + 1) → am_T am_P 400 mi_L_law 2403 (LV i) [] (am_st e' K M) cb sb Post) : am_T am_P 400 mi_L_law 463 (LV i) [] (am_st e I L) cb sb Post := by
  refine am_run_rows am_OK am_lr [2403] 80 _ _ _ _ _ _ ?_
  refine And.intro ⟨_, rfl, hv 1 (by decide)⟩ (And.intro ⟨_, rfl, hv 2 (by decide)⟩ (And.intro ⟨_, rfl, hv 3 (by decide)⟩ (Exists.intro 0 (Exists.intro 0 (And.intro (Nat.zero_le _) (And.intro (Nat.zero_le _) ?_))))))
  refine am_cIo (am_C_d (q_uses (Q := fun r r' K => PQ e m r r' K L) hR.2.1 hR.2.2.1 hR.1 (fun r J f => ⟨rfl, t, Rel_q hR f (frL_r L) (Nat.le_succ _)⟩)) (by decide)) (fun r J h ho => ?_)
  refine And.intro ⟨_, rfl, hv 1 (by decide)⟩ (And.intro ⟨_, rfl, hv 2 (by decide)⟩ (And.intro ⟨_, rfl, hv 3 (by decide)⟩ (Exists.intro 0 (Exists.intro 0 (And.intro (Nat.zero_le _) (And.intro (Nat.zero_le _) ?_))))))
  show am_C am_P 399 mi_X11_uses [.ref 73, .int (J am_old (i + nI 1).toNatClampNeg), .int (J am_old (i + nI 2).toNatClampNeg), .int (J am_old (i + nI 3).toNatClampNeg)] (am_st e J L) 0 0 _
  rw [ho]
  exact am_cI (am_C_d h (by decide)) (fun r' K h2 => And.intro (fun _ => And.intro (am_T_lv (hN e h2.2.choose K L rfl h2.2.choose_spec) ⟨rfl, rfl, rfl, rfl, trivial⟩) trivial) (fun q => absurd h2.1 q))
set_option maxRecDepth 100000 in
theorem lc_6 {e : am_V} {I : Nat → Nat → Int32} {L : Nat → Nat → Int64} {t : tw} {m cb sb : Nat} {i : Int32} {Post : Option Value → am_S → Prop} (hR : Rel Bt e t I L m) (hm : m < 1000000) (hv : ∀ k, k < 6 → vp_in (i + nI k) e.2.1) (hN : ∀ e' t' K M, e'.2.1 = e.2.1 → Rel Bt e' t' K M (m + 1) → am_T am_P 400 mi_L_law 2403 (LV i) [] (am_st e' K M) cb sb Post) : am_T am_P 400 mi_L_law 506 (LV i) [] (am_st e I L) cb sb Post := by
  refine am_run_rows am_OK am_lr [2403] 80 _ _ _ _ _ _ ?_
  refine And.intro ⟨_, rfl, hv 1 (by decide)⟩ (And.intro ⟨_, rfl, hv 2 (by decide)⟩ (And.intro ⟨_, rfl, hv 3 (by decide)⟩ (Exists.intro 0 (Exists.intro 0 (And.intro (Nat.zero_le _) (And.intro (Nat.zero_le _) ?_))))))
  refine am_cIo (am_C_d (q_left (Q := fun r r' K => PQ e m r r' K L) hR.2.1 hR.2.2.1 hR.1 (fun r J f => ⟨rfl, t, Rel_q hR f (frL_r L) (Nat.le_succ _)⟩)) (by decide)) (fun r J h ho => ?_)
  refine And.intro ⟨_, rfl, hv 1 (by decide)⟩ (And.intro ⟨_, rfl, hv 2 (by decide)⟩ (And.intro ⟨_, rfl, hv 3 (by decide)⟩ (Exists.intro 0 (Exists.intro 0 (And.intro (Nat.zero_le _) (And.intro (Nat.zero_le _) ?_))))))
  show am_C am_P 399 mi_X11_left [.ref 73, .int (J am_old (i + nI 1).toNatClampNeg), .int (J am_old (i + nI 2).toNatClampNeg), .int (J am_old (i + nI 3).toNatClampNeg)] (am_st e J L) 0 0 _
  rw [ho]
  exact am_cI (am_C_d h (by decide)) (fun r' K h2 => And.intro (fun _ => And.intro (am_T_lv (hN e h2.2.choose K L rfl h2.2.choose_spec) ⟨rfl, rfl, rfl, rfl, trivial⟩) trivial) (fun q => absurd h2.1 q))
set_option maxRecDepth 100000 in
theorem lc_7 {e : am_V} {I : Nat → Nat → Int32} {L : Nat → Nat → Int64} {t : tw} {m cb sb : Nat} {i : Int32} {Post : Option Value → am_S → Prop} (hR : Rel Bt e t I L m) (hm : m < 1000000) (hv : ∀ k, k < 6 → vp_in (i + nI k) e.2.1) (hN : ∀ e' t' K M, e'.2.1 = e.2.1 → Rel Bt e' t' K M (m + 1) → am_T am_P 400 mi_L_law 2403 (LV i) [] (am_st e' K M) cb sb Post) : am_T am_P 400 mi_L_law 549 (LV i) [] (am_st e I L) cb sb Post := by
  refine am_run_rows am_OK am_lr [2403] 80 _ _ _ _ _ _ ?_
  refine And.intro ⟨_, rfl, hv 1 (by decide)⟩ (Exists.intro 0 (Exists.intro 0 (And.intro (Nat.zero_le _) (And.intro (Nat.zero_le _) ?_))))
  refine am_cIo (am_C_d (q_beside (Q := fun r r' K => PQ e m r r' K L) hR.2.1 hR.2.2.1 hR.1 (fun r J f => ⟨rfl, t, Rel_q hR f (frL_r L) (Nat.le_succ _)⟩)) (by decide)) (fun r J h ho => ?_)
  refine And.intro ⟨_, rfl, hv 1 (by decide)⟩ (Exists.intro 0 (Exists.intro 0 (And.intro (Nat.zero_le _) (And.intro (Nat.zero_le _) ?_))))
  show am_C am_P 399 mi_X11_beside [.ref 73, .int (J am_old (i + nI 1).toNatClampNeg)] (am_st e J L) 0 0 _
  rw [ho]
  exact am_cI (am_C_d h (by decide)) (fun r' K h2 => And.intro (fun _ => And.intro (am_T_lv (hN e h2.2.choose K L rfl h2.2.choose_spec) ⟨rfl, rfl, rfl, rfl, trivial⟩) trivial) (fun q => absurd h2.1 q))
set_option maxRecDepth 100000 in
theorem lc_8 {e : am_V} {I : Nat → Nat → Int32} {L : Nat → Nat → Int64} {t : tw} {m cb sb : Nat} {i : Int32} {Post : Option Value → am_S → Prop} (hR : Rel Bt e t I L m) (hm : m < 1000000) (hv : ∀ k, k < 6 → vp_in (i + nI k) e.2.1) (hN : ∀ e' t' K M, e'.2.1 = e.2.1 → Rel Bt e' t' K M (m + 1) → am_T am_P 400 mi_L_law 2403 (LV i) [] (am_st e' K M) cb sb Post) : am_T am_P 400 mi_L_law 572 (LV i) [] (am_st e I L) cb sb Post := by
  refine am_run_rows am_OK am_lr [2403] 80 _ _ _ _ _ _ ?_
  refine And.intro ⟨_, rfl, hv 1 (by decide)⟩ (And.intro ⟨_, rfl, hv 2 (by decide)⟩ (Exists.intro 0 (Exists.intro 0 (And.intro (Nat.zero_le _) (And.intro (Nat.zero_le _) ?_)))))
  refine am_cIo (am_C_d (q_corner (Q := fun r r' K => PQ e m r r' K L) hR.2.1 hR.2.2.1 hR.1 (fun r J f => ⟨rfl, t, Rel_q hR f (frL_r L) (Nat.le_succ _)⟩)) (by decide)) (fun r J h ho => ?_)
  refine And.intro ⟨_, rfl, hv 1 (by decide)⟩ (And.intro ⟨_, rfl, hv 2 (by decide)⟩ (Exists.intro 0 (Exists.intro 0 (And.intro (Nat.zero_le _) (And.intro (Nat.zero_le _) ?_)))))
  show am_C am_P 399 mi_X11_corner [.ref 73, .int (J am_old (i + nI 1).toNatClampNeg), .int (J am_old (i + nI 2).toNatClampNeg)] (am_st e J L) 0 0 _
  rw [ho]
  exact am_cI (am_C_d h (by decide)) (fun r' K h2 => And.intro (fun _ => And.intro (am_T_lv (hN e h2.2.choose K L rfl h2.2.choose_spec) ⟨rfl, rfl, rfl, rfl, trivial⟩) trivial) (fun q => absurd h2.1 q))
set_option maxRecDepth 100000 in
theorem lc_9 {e : am_V} {I : Nat → Nat → Int32} {L : Nat → Nat → Int64} {t : tw} {m cb sb : Nat} {i : Int32} {Post : Option Value → am_S → Prop} (hR : Rel Bt e t I L m) (hm : m < 1000000) (hv : ∀ k, k < 6 → vp_in (i + nI k) e.2.1) (hN : ∀ e' t' K M, e'.2.1 = e.2.1 → Rel Bt e' t' K M (m + 1) → am_T am_P 400 mi_L_law 2403 (LV i) [] (am_st e' K M) cb sb Post) : am_T am_P 400 mi_L_law 605 (LV i) [] (am_st e I L) cb sb Post := by
  refine am_run_rows am_OK am_lr [2403] 80 _ _ _ _ _ _ ?_
  refine And.intro ⟨_, rfl, hv 1 (by decide)⟩ (And.intro ⟨_, rfl, hv 2 (by decide)⟩ (Exists.intro 0 (Exists.intro 0 (And.intro (Nat.zero_le _) (And.intro (Nat.zero_le _) ?_)))))
  refine am_cIo (am_C_d (q_errand (Q := fun r r' K => PQ e m r r' K L) hR.2.1 hR.2.2.1 hR.1 (fun r J f => ⟨rfl, t, Rel_q hR f (frL_r L) (Nat.le_succ _)⟩)) (by decide)) (fun r J h ho => ?_)
  refine And.intro ⟨_, rfl, hv 1 (by decide)⟩ (And.intro ⟨_, rfl, hv 2 (by decide)⟩ (Exists.intro 0 (Exists.intro 0 (And.intro (Nat.zero_le _) (And.intro (Nat.zero_le _) ?_)))))
  show am_C am_P 399 mi_X11_errand [.ref 73, .int (J am_old (i + nI 1).toNatClampNeg), .int (J am_old (i + nI 2).toNatClampNeg)] (am_st e J L) 0 0 _
  rw [ho]
  exact am_cI (am_C_d h (by decide)) (fun r' K h2 => And.intro (fun _ => And.intro (am_T_lv (hN e h2.2.choose K L rfl h2.2.choose_spec) ⟨rfl, rfl, rfl, rfl, trivial⟩) trivial) (fun q => absurd h2.1 q))
set_option maxRecDepth 100000 in
theorem lc_10 {e : am_V} {I : Nat → Nat → Int32} {L : Nat → Nat → Int64} {t : tw} {m cb sb : Nat} {i : Int32} {Post : Option Value → am_S → Prop} (hR : Rel Bt e t I L m) (hm : m < 1000000) (hv : ∀ k, k < 6 → vp_in (i + nI k) e.2.1) (hN : ∀ e' t' K M, e'.2.1 = e.2.1 → Rel Bt e' t' K M (m + 1) → am_T am_P 400 mi_L_law 2403 (LV i) [] (am_st e' K M) cb sb Post) : am_T am_P 400 mi_L_law 638 (LV i) [] (am_st e I L) cb sb Post := by
  refine am_run_rows am_OK am_lr [2403] 80 _ _ _ _ _ _ ?_
  refine And.intro ⟨_, rfl, hv 1 (by decide)⟩ (And.intro ⟨_, rfl, hv 2 (by decide)⟩ (And.intro ⟨_, rfl, hv 3 (by decide)⟩ (Exists.intro 0 (Exists.intro 0 (And.intro (Nat.zero_le _) (And.intro (Nat.zero_le _) ?_))))))
  refine am_cIo (am_C_d (r_take (Q := fun r r' K => PQ e m r r' K L) hR hm (fun r J t' h => ⟨rfl, t', h⟩)) (by decide)) (fun r J h ho => ?_)
  refine And.intro ⟨_, rfl, hv 1 (by decide)⟩ (And.intro ⟨_, rfl, hv 2 (by decide)⟩ (And.intro ⟨_, rfl, hv 3 (by decide)⟩ (Exists.intro 0 (Exists.intro 0 (And.intro (Nat.zero_le _) (And.intro (Nat.zero_le _) ?_))))))
  show am_C am_P 399 mi_X11_take [.ref 73, .int (J am_old (i + nI 1).toNatClampNeg), .int (J am_old (i + nI 2).toNatClampNeg), .int (J am_old (i + nI 3).toNatClampNeg)] (am_st e J L) 0 0 _
  rw [ho]
  exact am_cI (am_C_d h (by decide)) (fun r' K h2 => And.intro (fun _ => And.intro (am_T_lv (hN e h2.2.choose K L rfl h2.2.choose_spec) ⟨rfl, rfl, rfl, rfl, trivial⟩) trivial) (fun q => absurd h2.1 q))
set_option maxRecDepth 100000 in
theorem lc_11 {e : am_V} {I : Nat → Nat → Int32} {L : Nat → Nat → Int64} {t : tw} {m cb sb : Nat} {i : Int32} {Post : Option Value → am_S → Prop} (hR : Rel Bt e t I L m) (hm : m < 1000000) (hv : ∀ k, k < 6 → vp_in (i + nI k) e.2.1) (hN : ∀ e' t' K M, e'.2.1 = e.2.1 → Rel Bt e' t' K M (m + 1) → am_T am_P 400 mi_L_law 2403 (LV i) [] (am_st e' K M) cb sb Post) : am_T am_P 400 mi_L_law 681 (LV i) [] (am_st e I L) cb sb Post := by
  refine am_run_rows am_OK am_lr [2403] 80 _ _ _ _ _ _ ?_
  refine And.intro ⟨_, rfl, hv 1 (by decide)⟩ (And.intro ⟨_, rfl, hv 2 (by decide)⟩ (And.intro ⟨_, rfl, hv 3 (by decide)⟩ (Exists.intro 0 (Exists.intro 0 (And.intro (Nat.zero_le _) (And.intro (Nat.zero_le _) ?_))))))
  refine am_cIo (am_C_d (r_give (Q := fun r r' K => PQ e m r r' K L) hR hm (fun r J t' h => ⟨rfl, t', h⟩)) (by decide)) (fun r J h ho => ?_)
  refine And.intro ⟨_, rfl, hv 1 (by decide)⟩ (And.intro ⟨_, rfl, hv 2 (by decide)⟩ (And.intro ⟨_, rfl, hv 3 (by decide)⟩ (Exists.intro 0 (Exists.intro 0 (And.intro (Nat.zero_le _) (And.intro (Nat.zero_le _) ?_))))))
  show am_C am_P 399 mi_X11_give [.ref 73, .int (J am_old (i + nI 1).toNatClampNeg), .int (J am_old (i + nI 2).toNatClampNeg), .int (J am_old (i + nI 3).toNatClampNeg)] (am_st e J L) 0 0 _
  rw [ho]
  exact am_cI (am_C_d h (by decide)) (fun r' K h2 => And.intro (fun _ => And.intro (am_T_lv (hN e h2.2.choose K L rfl h2.2.choose_spec) ⟨rfl, rfl, rfl, rfl, trivial⟩) trivial) (fun q => absurd h2.1 q))
set_option maxRecDepth 100000 in
theorem lc_12 {e : am_V} {I : Nat → Nat → Int32} {L : Nat → Nat → Int64} {t : tw} {m cb sb : Nat} {i : Int32} {Post : Option Value → am_S → Prop} (hR : Rel Bt e t I L m) (hm : m < 1000000) (hv : ∀ k, k < 6 → vp_in (i + nI k) e.2.1) (hN : ∀ e' t' K M, e'.2.1 = e.2.1 → Rel Bt e' t' K M (m + 1) → am_T am_P 400 mi_L_law 2403 (LV i) [] (am_st e' K M) cb sb Post) : am_T am_P 400 mi_L_law 724 (LV i) [] (am_st e I L) cb sb Post := by
  refine am_run_rows am_OK am_lr [2403] 80 _ _ _ _ _ _ ?_
  refine Exists.intro 0 (Exists.intro 0 (And.intro (Nat.zero_le _) (And.intro (Nat.zero_le _) ?_)))
  refine am_cIo (am_C_d (r_undo (Q := fun r r' K => PQ e m r r' K L) hR hm (fun r J t' h => ⟨rfl, t', h⟩)) (by decide)) (fun r J h ho => ?_)
  refine Exists.intro 0 (Exists.intro 0 (And.intro (Nat.zero_le _) (And.intro (Nat.zero_le _) ?_)))
  show am_C am_P 399 mi_X11_undo [.ref 73] (am_st e J L) 0 0 _
  exact am_cI (am_C_d h (by decide)) (fun r' K h2 => And.intro (fun _ => And.intro (am_T_lv (hN e h2.2.choose K L rfl h2.2.choose_spec) ⟨rfl, rfl, rfl, rfl, trivial⟩) trivial) (fun q => absurd h2.1 q))
set_option maxRecDepth 100000 in
theorem lc_13 {e : am_V} {I : Nat → Nat → Int32} {L : Nat → Nat → Int64} {t : tw} {m cb sb : Nat} {i : Int32} {Post : Option Value → am_S → Prop} (hR : Rel Bt e t I L m) (hm : m < 1000000) (hv : ∀ k, k < 6 → vp_in (i + nI k) e.2.1) (hN : ∀ e' t' K M, e'.2.1 = e.2.1 → Rel Bt e' t' K M (m + 1) → am_T am_P 400 mi_L_law 2403 (LV i) [] (am_st e' K M) cb sb Post) : am_T am_P 400 mi_L_law 737 (LV i) [] (am_st e I L) cb sb Post := by
  refine am_run_rows am_OK am_lr [2403] 80 _ _ _ _ _ _ ?_
  refine Exists.intro 0 (Exists.intro 0 (And.intro (Nat.zero_le _) (And.intro (Nat.zero_le _) ?_)))
  refine am_cIo (am_C_d (r_anew (Q := fun r r' K => PQ e m r r' K L) hR hm (fun r J t' h => ⟨rfl, t', h⟩)) (by decide)) (fun r J h ho => ?_)
  refine Exists.intro 0 (Exists.intro 0 (And.intro (Nat.zero_le _) (And.intro (Nat.zero_le _) ?_)))
  show am_C am_P 399 mi_X11_anew [.ref 73] (am_st e J L) 0 0 _
  exact am_cI (am_C_d h (by decide)) (fun r' K h2 => And.intro (fun _ => And.intro (am_T_lv (hN e h2.2.choose K L rfl h2.2.choose_spec) ⟨rfl, rfl, rfl, rfl, trivial⟩) trivial) (fun q => absurd h2.1 q))
set_option maxRecDepth 100000 in
theorem lc_14 {e : am_V} {I : Nat → Nat → Int32} {L : Nat → Nat → Int64} {t : tw} {m cb sb : Nat} {i : Int32} {Post : Option Value → am_S → Prop} (hR : Rel Bt e t I L m) (hm : m < 1000000) (hv : ∀ k, k < 6 → vp_in (i + nI k) e.2.1) (hN : ∀ e' t' K M, e'.2.1 = e.2.1 → Rel Bt e' t' K M (m + 1) → am_T am_P 400 mi_L_law 2403 (LV i) [] (am_st e' K M) cb sb Post) : am_T am_P 400 mi_L_law 750 (LV i) [] (am_st e I L) cb sb Post := by
  refine am_run_rows am_OK am_lr [2403] 80 _ _ _ _ _ _ ?_
  refine And.intro ⟨_, rfl, hv 1 (by decide)⟩ (And.intro ⟨_, rfl, hv 2 (by decide)⟩ (Exists.intro 0 (Exists.intro 0 (And.intro (Nat.zero_le _) (And.intro (Nat.zero_le _) ?_)))))
  refine am_cIo (am_C_d (q_led (Q := fun r r' K => PQ e m r r' K L) hR.2.1 hR.2.2.1 hR.1 (fun r J f => ⟨rfl, t, Rel_q hR f (frL_r L) (Nat.le_succ _)⟩)) (by decide)) (fun r J h ho => ?_)
  refine And.intro ⟨_, rfl, hv 1 (by decide)⟩ (And.intro ⟨_, rfl, hv 2 (by decide)⟩ (Exists.intro 0 (Exists.intro 0 (And.intro (Nat.zero_le _) (And.intro (Nat.zero_le _) ?_)))))
  show am_C am_P 399 mi_X11_led [.ref 73, .int (J am_old (i + nI 1).toNatClampNeg), .int (J am_old (i + nI 2).toNatClampNeg)] (am_st e J L) 0 0 _
  rw [ho]
  exact am_cI (am_C_d h (by decide)) (fun r' K h2 => And.intro (fun _ => And.intro (am_T_lv (hN e h2.2.choose K L rfl h2.2.choose_spec) ⟨rfl, rfl, rfl, rfl, trivial⟩) trivial) (fun q => absurd h2.1 q))
set_option maxRecDepth 100000 in
theorem lc_15 {e : am_V} {I : Nat → Nat → Int32} {L : Nat → Nat → Int64} {t : tw} {m cb sb : Nat} {i : Int32} {Post : Option Value → am_S → Prop} (hR : Rel Bt e t I L m) (hm : m < 1000000) (hv : ∀ k, k < 6 → vp_in (i + nI k) e.2.1) (hN : ∀ e' t' K M, e'.2.1 = e.2.1 → Rel Bt e' t' K M (m + 1) → am_T am_P 400 mi_L_law 2403 (LV i) [] (am_st e' K M) cb sb Post) : am_T am_P 400 mi_L_law 783 (LV i) [] (am_st e I L) cb sb Post := by
  refine am_run_rows am_OK am_lr [2403] 80 _ _ _ _ _ _ ?_
  refine And.intro ⟨_, rfl, hv 1 (by decide)⟩ (And.intro ⟨_, rfl, hv 2 (by decide)⟩ (Exists.intro 0 (Exists.intro 0 (And.intro (Nat.zero_le _) (And.intro (Nat.zero_le _) ?_)))))
  refine am_cIo (am_C_d (q_bare (Q := fun r r' K => PQ e m r r' K L) hR.2.1 hR.2.2.1 hR.1 (fun r J f => ⟨rfl, t, Rel_q hR f (frL_r L) (Nat.le_succ _)⟩)) (by decide)) (fun r J h ho => ?_)
  refine And.intro ⟨_, rfl, hv 1 (by decide)⟩ (And.intro ⟨_, rfl, hv 2 (by decide)⟩ (Exists.intro 0 (Exists.intro 0 (And.intro (Nat.zero_le _) (And.intro (Nat.zero_le _) ?_)))))
  show am_C am_P 399 mi_X11_bare [.ref 73, .int (J am_old (i + nI 1).toNatClampNeg), .int (J am_old (i + nI 2).toNatClampNeg)] (am_st e J L) 0 0 _
  rw [ho]
  exact am_cI (am_C_d h (by decide)) (fun r' K h2 => And.intro (fun _ => And.intro (am_T_lv (hN e h2.2.choose K L rfl h2.2.choose_spec) ⟨rfl, rfl, rfl, rfl, trivial⟩) trivial) (fun q => absurd h2.1 q))
set_option maxRecDepth 100000 in
theorem lc_16 {e : am_V} {I : Nat → Nat → Int32} {L : Nat → Nat → Int64} {t : tw} {m cb sb : Nat} {i : Int32} {Post : Option Value → am_S → Prop} (hR : Rel Bt e t I L m) (hm : m < 1000000) (hv : ∀ k, k < 6 → vp_in (i + nI k) e.2.1) (hN : ∀ e' t' K M, e'.2.1 = e.2.1 → Rel Bt e' t' K M (m + 1) → am_T am_P 400 mi_L_law 2403 (LV i) [] (am_st e' K M) cb sb Post) : am_T am_P 400 mi_L_law 816 (LV i) [] (am_st e I L) cb sb Post := by
  refine am_run_rows am_OK am_lr [2403] 80 _ _ _ _ _ _ ?_
  refine And.intro ⟨_, rfl, hv 1 (by decide)⟩ (And.intro ⟨_, rfl, hv 2 (by decide)⟩ (Exists.intro 0 (Exists.intro 0 (And.intro (Nat.zero_le _) (And.intro (Nat.zero_le _) ?_)))))
  refine am_cIo (am_C_d (q_way (Q := fun r r' K => PQ e m r r' K L) hR.2.1 hR.2.2.1 hR.1 (fun r J f => ⟨rfl, t, Rel_q hR f (frL_r L) (Nat.le_succ _)⟩)) (by decide)) (fun r J h ho => ?_)
  refine And.intro ⟨_, rfl, hv 1 (by decide)⟩ (And.intro ⟨_, rfl, hv 2 (by decide)⟩ (Exists.intro 0 (Exists.intro 0 (And.intro (Nat.zero_le _) (And.intro (Nat.zero_le _) ?_)))))
  show am_C am_P 399 mi_X11_way [.ref 73, .int (J am_old (i + nI 1).toNatClampNeg), .int (J am_old (i + nI 2).toNatClampNeg)] (am_st e J L) 0 0 _
  rw [ho]
  exact am_cI (am_C_d h (by decide)) (fun r' K h2 => And.intro (fun _ => And.intro (am_T_lv (hN e h2.2.choose K L rfl h2.2.choose_spec) ⟨rfl, rfl, rfl, rfl, trivial⟩) trivial) (fun q => absurd h2.1 q))
set_option maxRecDepth 100000 in
theorem lc_17 {e : am_V} {I : Nat → Nat → Int32} {L : Nat → Nat → Int64} {t : tw} {m cb sb : Nat} {i : Int32} {Post : Option Value → am_S → Prop} (hR : Rel Bt e t I L m) (hm : m < 1000000) (hv : ∀ k, k < 6 → vp_in (i + nI k) e.2.1) (hN : ∀ e' t' K M, e'.2.1 = e.2.1 → Rel Bt e' t' K M (m + 1) → am_T am_P 400 mi_L_law 2403 (LV i) [] (am_st e' K M) cb sb Post) : am_T am_P 400 mi_L_law 849 (LV i) [] (am_st e I L) cb sb Post := by
  refine am_run_rows am_OK am_lr [2403] 80 _ _ _ _ _ _ ?_
  refine And.intro ⟨_, rfl, hv 1 (by decide)⟩ (And.intro ⟨_, rfl, hv 2 (by decide)⟩ (And.intro ⟨_, rfl, hv 3 (by decide)⟩ (Exists.intro 0 (Exists.intro 0 (And.intro (Nat.zero_le _) (And.intro (Nat.zero_le _) ?_))))))
  refine am_cIo (am_C_d (q_stop (Q := fun r r' K => PQ e m r r' K L) hR.2.1 hR.2.2.1 hR.1 (fun r J f => ⟨rfl, t, Rel_q hR f (frL_r L) (Nat.le_succ _)⟩)) (by decide)) (fun r J h ho => ?_)
  refine And.intro ⟨_, rfl, hv 1 (by decide)⟩ (And.intro ⟨_, rfl, hv 2 (by decide)⟩ (And.intro ⟨_, rfl, hv 3 (by decide)⟩ (Exists.intro 0 (Exists.intro 0 (And.intro (Nat.zero_le _) (And.intro (Nat.zero_le _) ?_))))))
  show am_C am_P 399 mi_X11_stop [.ref 73, .int (J am_old (i + nI 1).toNatClampNeg), .int (J am_old (i + nI 2).toNatClampNeg), .int (J am_old (i + nI 3).toNatClampNeg)] (am_st e J L) 0 0 _
  rw [ho]
  exact am_cI (am_C_d h (by decide)) (fun r' K h2 => And.intro (fun _ => And.intro (am_T_lv (hN e h2.2.choose K L rfl h2.2.choose_spec) ⟨rfl, rfl, rfl, rfl, trivial⟩) trivial) (fun q => absurd h2.1 q))
set_option maxRecDepth 100000 in
theorem lc_18 {e : am_V} {I : Nat → Nat → Int32} {L : Nat → Nat → Int64} {t : tw} {m cb sb : Nat} {i : Int32} {Post : Option Value → am_S → Prop} (hR : Rel Bt e t I L m) (hm : m < 1000000) (hv : ∀ k, k < 6 → vp_in (i + nI k) e.2.1) (hN : ∀ e' t' K M, e'.2.1 = e.2.1 → Rel Bt e' t' K M (m + 1) → am_T am_P 400 mi_L_law 2403 (LV i) [] (am_st e' K M) cb sb Post) : am_T am_P 400 mi_L_law 892 (LV i) [] (am_st e I L) cb sb Post := by
  refine am_run_rows am_OK am_lr [2403] 80 _ _ _ _ _ _ ?_
  refine And.intro ⟨_, rfl, hv 1 (by decide)⟩ (And.intro ⟨_, rfl, hv 2 (by decide)⟩ (Exists.intro 0 (Exists.intro 0 (And.intro (Nat.zero_le _) (And.intro (Nat.zero_le _) ?_)))))
  refine am_cIo (am_C_d (q_streets (Q := fun r r' K => PQ e m r r' K L) hR.2.1 hR.2.2.1 hR.1 (fun r J f => ⟨rfl, t, Rel_q hR f (frL_r L) (Nat.le_succ _)⟩)) (by decide)) (fun r J h ho => ?_)
  refine And.intro ⟨_, rfl, hv 1 (by decide)⟩ (And.intro ⟨_, rfl, hv 2 (by decide)⟩ (Exists.intro 0 (Exists.intro 0 (And.intro (Nat.zero_le _) (And.intro (Nat.zero_le _) ?_)))))
  show am_C am_P 399 mi_X11_streets [.ref 73, .int (J am_old (i + nI 1).toNatClampNeg), .int (J am_old (i + nI 2).toNatClampNeg)] (am_st e J L) 0 0 _
  rw [ho]
  exact am_cI (am_C_d h (by decide)) (fun r' K h2 => And.intro (fun _ => And.intro (am_T_lv (hN e h2.2.choose K L rfl h2.2.choose_spec) ⟨rfl, rfl, rfl, rfl, trivial⟩) trivial) (fun q => absurd h2.1 q))
set_option maxRecDepth 100000 in
theorem lc_19 {e : am_V} {I : Nat → Nat → Int32} {L : Nat → Nat → Int64} {t : tw} {m cb sb : Nat} {i : Int32} {Post : Option Value → am_S → Prop} (hR : Rel Bt e t I L m) (hm : m < 1000000) (hv : ∀ k, k < 6 → vp_in (i + nI k) e.2.1) (hN : ∀ e' t' K M, e'.2.1 = e.2.1 → Rel Bt e' t' K M (m + 1) → am_T am_P 400 mi_L_law 2403 (LV i) [] (am_st e' K M) cb sb Post) : am_T am_P 400 mi_L_law 925 (LV i) [] (am_st e I L) cb sb Post := by
  refine am_run_rows am_OK am_lr [2403] 80 _ _ _ _ _ _ ?_
  refine And.intro ⟨_, rfl, hv 1 (by decide)⟩ (And.intro ⟨_, rfl, hv 2 (by decide)⟩ (Exists.intro 0 (Exists.intro 0 (And.intro (Nat.zero_le _) (And.intro (Nat.zero_le _) ?_)))))
  refine am_cIo (am_C_d (q_buy (Q := fun r r' K => PQ e m r r' K L) hR.2.1 hR.2.2.1 hR.1 (fun r J f => ⟨rfl, t, Rel_q hR f (frL_r L) (Nat.le_succ _)⟩)) (by decide)) (fun r J h ho => ?_)
  refine And.intro ⟨_, rfl, hv 1 (by decide)⟩ (And.intro ⟨_, rfl, hv 2 (by decide)⟩ (Exists.intro 0 (Exists.intro 0 (And.intro (Nat.zero_le _) (And.intro (Nat.zero_le _) ?_)))))
  show am_C am_P 399 mi_X11_buy [.ref 73, .int (J am_old (i + nI 1).toNatClampNeg), .int (J am_old (i + nI 2).toNatClampNeg)] (am_st e J L) 0 0 _
  rw [ho]
  exact am_cI (am_C_d h (by decide)) (fun r' K h2 => And.intro (fun _ => And.intro (am_T_lv (hN e h2.2.choose K L rfl h2.2.choose_spec) ⟨rfl, rfl, rfl, rfl, trivial⟩) trivial) (fun q => absurd h2.1 q))
set_option maxRecDepth 100000 in
theorem lc_20 {e : am_V} {I : Nat → Nat → Int32} {L : Nat → Nat → Int64} {t : tw} {m cb sb : Nat} {i : Int32} {Post : Option Value → am_S → Prop} (hR : Rel Bt e t I L m) (hm : m < 1000000) (hv : ∀ k, k < 6 → vp_in (i + nI k) e.2.1) (hN : ∀ e' t' K M, e'.2.1 = e.2.1 → Rel Bt e' t' K M (m + 1) → am_T am_P 400 mi_L_law 2403 (LV i) [] (am_st e' K M) cb sb Post) : am_T am_P 400 mi_L_law 958 (LV i) [] (am_st e I L) cb sb Post := by
  refine am_run_rows am_OK am_lr [2403] 80 _ _ _ _ _ _ ?_
  refine And.intro ⟨_, rfl, hv 1 (by decide)⟩ (And.intro ⟨_, rfl, hv 2 (by decide)⟩ (Exists.intro 0 (Exists.intro 0 (And.intro (Nat.zero_le _) (And.intro (Nat.zero_le _) ?_)))))
  refine am_cIo (am_C_d (q_bought (Q := fun r r' K => PQ e m r r' K L) hR.2.1 hR.2.2.1 hR.1 (fun r J f => ⟨rfl, t, Rel_q hR f (frL_r L) (Nat.le_succ _)⟩)) (by decide)) (fun r J h ho => ?_)
  refine And.intro ⟨_, rfl, hv 1 (by decide)⟩ (And.intro ⟨_, rfl, hv 2 (by decide)⟩ (Exists.intro 0 (Exists.intro 0 (And.intro (Nat.zero_le _) (And.intro (Nat.zero_le _) ?_)))))
  show am_C am_P 399 mi_X11_bought [.ref 73, .int (J am_old (i + nI 1).toNatClampNeg), .int (J am_old (i + nI 2).toNatClampNeg)] (am_st e J L) 0 0 _
  rw [ho]
  exact am_cI (am_C_d h (by decide)) (fun r' K h2 => And.intro (fun _ => And.intro (am_T_lv (hN e h2.2.choose K L rfl h2.2.choose_spec) ⟨rfl, rfl, rfl, rfl, trivial⟩) trivial) (fun q => absurd h2.1 q))
set_option maxRecDepth 100000 in
theorem lc_21 {e : am_V} {I : Nat → Nat → Int32} {L : Nat → Nat → Int64} {t : tw} {m cb sb : Nat} {i : Int32} {Post : Option Value → am_S → Prop} (hR : Rel Bt e t I L m) (hm : m < 1000000) (hv : ∀ k, k < 6 → vp_in (i + nI k) e.2.1) (hN : ∀ e' t' K M, e'.2.1 = e.2.1 → Rel Bt e' t' K M (m + 1) → am_T am_P 400 mi_L_law 2403 (LV i) [] (am_st e' K M) cb sb Post) : am_T am_P 400 mi_L_law 991 (LV i) [] (am_st e I L) cb sb Post := by
  refine am_run_rows am_OK am_lr [2403] 80 _ _ _ _ _ _ ?_
  refine And.intro ⟨_, rfl, hv 1 (by decide)⟩ (And.intro ⟨_, rfl, hv 2 (by decide)⟩ (And.intro ⟨_, rfl, hv 3 (by decide)⟩ (Exists.intro 0 (Exists.intro 0 (And.intro (Nat.zero_le _) (And.intro (Nat.zero_le _) ?_))))))
  refine am_cIo (am_C_d (q_lane (Q := fun r r' K => PQ e m r r' K L) hR.2.1 hR.2.2.1 hR.1 (fun r J f => ⟨rfl, t, Rel_q hR f (frL_r L) (Nat.le_succ _)⟩)) (by decide)) (fun r J h ho => ?_)
  refine And.intro ⟨_, rfl, hv 1 (by decide)⟩ (And.intro ⟨_, rfl, hv 2 (by decide)⟩ (And.intro ⟨_, rfl, hv 3 (by decide)⟩ (Exists.intro 0 (Exists.intro 0 (And.intro (Nat.zero_le _) (And.intro (Nat.zero_le _) ?_))))))
  show am_C am_P 399 mi_X11_lane [.ref 73, .int (J am_old (i + nI 1).toNatClampNeg), .int (J am_old (i + nI 2).toNatClampNeg), .int (J am_old (i + nI 3).toNatClampNeg)] (am_st e J L) 0 0 _
  rw [ho]
  exact am_cI (am_C_d h (by decide)) (fun r' K h2 => And.intro (fun _ => And.intro (am_T_lv (hN e h2.2.choose K L rfl h2.2.choose_spec) ⟨rfl, rfl, rfl, rfl, trivial⟩) trivial) (fun q => absurd h2.1 q))
set_option maxRecDepth 100000 in
theorem lc_22 {e : am_V} {I : Nat → Nat → Int32} {L : Nat → Nat → Int64} {t : tw} {m cb sb : Nat} {i : Int32} {Post : Option Value → am_S → Prop} (hR : Rel Bt e t I L m) (hm : m < 1000000) (hv : ∀ k, k < 6 → vp_in (i + nI k) e.2.1) (hN : ∀ e' t' K M, e'.2.1 = e.2.1 → Rel Bt e' t' K M (m + 1) → am_T am_P 400 mi_L_law 2403 (LV i) [] (am_st e' K M) cb sb Post) : am_T am_P 400 mi_L_law 1034 (LV i) [] (am_st e I L) cb sb Post := by
  refine am_run_rows am_OK am_lr [2403] 80 _ _ _ _ _ _ ?_
  refine And.intro ⟨_, rfl, hv 1 (by decide)⟩ (Exists.intro 0 (Exists.intro 0 (And.intro (Nat.zero_le _) (And.intro (Nat.zero_le _) ?_))))
  refine am_cIo (am_C_d (q_reach (Q := fun r r' K => PQ e m r r' K L) hR.2.1 hR.2.2.1 hR.1 (fun r J f => ⟨rfl, t, Rel_q hR f (frL_r L) (Nat.le_succ _)⟩)) (by decide)) (fun r J h ho => ?_)
  refine And.intro ⟨_, rfl, hv 1 (by decide)⟩ (Exists.intro 0 (Exists.intro 0 (And.intro (Nat.zero_le _) (And.intro (Nat.zero_le _) ?_))))
  show am_C am_P 399 mi_X11_reach [.ref 73, .int (J am_old (i + nI 1).toNatClampNeg)] (am_st e J L) 0 0 _
  rw [ho]
  exact am_cI (am_C_d h (by decide)) (fun r' K h2 => And.intro (fun _ => And.intro (am_T_lv (hN e h2.2.choose K L rfl h2.2.choose_spec) ⟨rfl, rfl, rfl, rfl, trivial⟩) trivial) (fun q => absurd h2.1 q))
set_option maxRecDepth 100000 in
theorem lc_23 {e : am_V} {I : Nat → Nat → Int32} {L : Nat → Nat → Int64} {t : tw} {m cb sb : Nat} {i : Int32} {Post : Option Value → am_S → Prop} (hR : Rel Bt e t I L m) (hm : m < 1000000) (hv : ∀ k, k < 6 → vp_in (i + nI k) e.2.1) (hN : ∀ e' t' K M, e'.2.1 = e.2.1 → Rel Bt e' t' K M (m + 1) → am_T am_P 400 mi_L_law 2403 (LV i) [] (am_st e' K M) cb sb Post) : am_T am_P 400 mi_L_law 1057 (LV i) [] (am_st e I L) cb sb Post := by
  refine am_run_rows am_OK am_lr [2403] 80 _ _ _ _ _ _ ?_
  refine Exists.intro 0 (Exists.intro 0 (And.intro (Nat.zero_le _) (And.intro (Nat.zero_le _) ?_)))
  refine am_cIo (am_C_d (q_shut (Q := fun r r' K => PQ e m r r' K L) hR.2.1 hR.2.2.1 hR.1 (fun r J f => ⟨rfl, t, Rel_q hR f (frL_r L) (Nat.le_succ _)⟩)) (by decide)) (fun r J h ho => ?_)
  refine Exists.intro 0 (Exists.intro 0 (And.intro (Nat.zero_le _) (And.intro (Nat.zero_le _) ?_)))
  show am_C am_P 399 mi_X11_shut [.ref 73] (am_st e J L) 0 0 _
  exact am_cI (am_C_d h (by decide)) (fun r' K h2 => And.intro (fun _ => And.intro (am_T_lv (hN e h2.2.choose K L rfl h2.2.choose_spec) ⟨rfl, rfl, rfl, rfl, trivial⟩) trivial) (fun q => absurd h2.1 q))
set_option maxRecDepth 100000 in
theorem lc_24 {e : am_V} {I : Nat → Nat → Int32} {L : Nat → Nat → Int64} {t : tw} {m cb sb : Nat} {i : Int32} {Post : Option Value → am_S → Prop} (hR : Rel Bt e t I L m) (hm : m < 1000000) (hv : ∀ k, k < 6 → vp_in (i + nI k) e.2.1) (hN : ∀ e' t' K M, e'.2.1 = e.2.1 → Rel Bt e' t' K M (m + 1) → am_T am_P 400 mi_L_law 2403 (LV i) [] (am_st e' K M) cb sb Post) : am_T am_P 400 mi_L_law 1070 (LV i) [] (am_st e I L) cb sb Post := by
  refine am_run_rows am_OK am_lr [2403] 80 _ _ _ _ _ _ ?_
  refine Exists.intro 0 (Exists.intro 0 (And.intro (Nat.zero_le _) (And.intro (Nat.zero_le _) ?_)))
  refine am_cIo (am_C_d (q_key (Q := fun r r' K => PQ e m r r' K L) hR.2.1 hR.2.2.1 hR.1 (fun r J f => ⟨rfl, t, Rel_q hR f (frL_r L) (Nat.le_succ _)⟩)) (by decide)) (fun r J h ho => ?_)
  refine Exists.intro 0 (Exists.intro 0 (And.intro (Nat.zero_le _) (And.intro (Nat.zero_le _) ?_)))
  show am_C am_P 399 mi_X11_key [.ref 73] (am_st e J L) 0 0 _
  exact am_cI (am_C_d h (by decide)) (fun r' K h2 => And.intro (fun _ => And.intro (am_T_lv (hN e h2.2.choose K L rfl h2.2.choose_spec) ⟨rfl, rfl, rfl, rfl, trivial⟩) trivial) (fun q => absurd h2.1 q))
set_option maxRecDepth 100000 in
theorem lc_25 {e : am_V} {I : Nat → Nat → Int32} {L : Nat → Nat → Int64} {t : tw} {m cb sb : Nat} {i : Int32} {Post : Option Value → am_S → Prop} (hR : Rel Bt e t I L m) (hm : m < 1000000) (hv : ∀ k, k < 6 → vp_in (i + nI k) e.2.1) (hN : ∀ e' t' K M, e'.2.1 = e.2.1 → Rel Bt e' t' K M (m + 1) → am_T am_P 400 mi_L_law 2403 (LV i) [] (am_st e' K M) cb sb Post) : am_T am_P 400 mi_L_law 1083 (LV i) [] (am_st e I L) cb sb Post := by
  refine am_run_rows am_OK am_lr [2403] 80 _ _ _ _ _ _ ?_
  refine And.intro ⟨_, rfl, hv 1 (by decide)⟩ (And.intro ⟨_, rfl, hv 2 (by decide)⟩ (And.intro ⟨_, rfl, hv 3 (by decide)⟩ (Exists.intro 0 (Exists.intro 0 (And.intro (Nat.zero_le _) (And.intro (Nat.zero_le _) ?_))))))
  refine am_cIo (am_C_d (q_loss (Q := fun r r' K => PQ e m r r' K L) hR.2.1 hR.2.2.1 hR.1 (fun r J f => ⟨rfl, t, Rel_q hR f (frL_r L) (Nat.le_succ _)⟩)) (by decide)) (fun r J h ho => ?_)
  refine And.intro ⟨_, rfl, hv 1 (by decide)⟩ (And.intro ⟨_, rfl, hv 2 (by decide)⟩ (And.intro ⟨_, rfl, hv 3 (by decide)⟩ (Exists.intro 0 (Exists.intro 0 (And.intro (Nat.zero_le _) (And.intro (Nat.zero_le _) ?_))))))
  show am_C am_P 399 mi_X11_loss [.ref 73, .int (J am_old (i + nI 1).toNatClampNeg), .int (J am_old (i + nI 2).toNatClampNeg), .int (J am_old (i + nI 3).toNatClampNeg)] (am_st e J L) 0 0 _
  rw [ho]
  exact am_cI (am_C_d h (by decide)) (fun r' K h2 => And.intro (fun _ => And.intro (am_T_lv (hN e h2.2.choose K L rfl h2.2.choose_spec) ⟨rfl, rfl, rfl, rfl, trivial⟩) trivial) (fun q => absurd h2.1 q))
set_option maxRecDepth 100000 in
theorem lc_26 {e : am_V} {I : Nat → Nat → Int32} {L : Nat → Nat → Int64} {t : tw} {m cb sb : Nat} {i : Int32} {Post : Option Value → am_S → Prop} (hR : Rel Bt e t I L m) (hm : m < 1000000) (hv : ∀ k, k < 6 → vp_in (i + nI k) e.2.1) (hN : ∀ e' t' K M, e'.2.1 = e.2.1 → Rel Bt e' t' K M (m + 1) → am_T am_P 400 mi_L_law 2403 (LV i) [] (am_st e' K M) cb sb Post) : am_T am_P 400 mi_L_law 1126 (LV i) [] (am_st e I L) cb sb Post := by
  refine am_run_rows am_OK am_lr [2403] 80 _ _ _ _ _ _ ?_
  refine And.intro ⟨_, rfl, hv 1 (by decide)⟩ (And.intro ⟨_, rfl, hv 2 (by decide)⟩ (Exists.intro 0 (Exists.intro 0 (And.intro (Nat.zero_le _) (And.intro (Nat.zero_le _) ?_)))))
  refine am_cIo (am_C_d (q_flow (Q := fun r r' K => PQ e m r r' K L) hR.2.1 hR.2.2.1 hR.1 (fun r J f => ⟨rfl, t, Rel_q hR f (frL_r L) (Nat.le_succ _)⟩)) (by decide)) (fun r J h ho => ?_)
  refine And.intro ⟨_, rfl, hv 1 (by decide)⟩ (And.intro ⟨_, rfl, hv 2 (by decide)⟩ (Exists.intro 0 (Exists.intro 0 (And.intro (Nat.zero_le _) (And.intro (Nat.zero_le _) ?_)))))
  show am_C am_P 399 mi_X11_flow [.ref 73, .int (J am_old (i + nI 1).toNatClampNeg), .int (J am_old (i + nI 2).toNatClampNeg)] (am_st e J L) 0 0 _
  rw [ho]
  exact am_cI (am_C_d h (by decide)) (fun r' K h2 => And.intro (fun _ => And.intro (am_T_lv (hN e h2.2.choose K L rfl h2.2.choose_spec) ⟨rfl, rfl, rfl, rfl, trivial⟩) trivial) (fun q => absurd h2.1 q))
set_option maxRecDepth 100000 in
theorem lc_27 {e : am_V} {I : Nat → Nat → Int32} {L : Nat → Nat → Int64} {t : tw} {m cb sb : Nat} {i : Int32} {Post : Option Value → am_S → Prop} (hR : Rel Bt e t I L m) (hm : m < 1000000) (hv : ∀ k, k < 6 → vp_in (i + nI k) e.2.1) (hN : ∀ e' t' K M, e'.2.1 = e.2.1 → Rel Bt e' t' K M (m + 1) → am_T am_P 400 mi_L_law 2403 (LV i) [] (am_st e' K M) cb sb Post) : am_T am_P 400 mi_L_law 1159 (LV i) [] (am_st e I L) cb sb Post := by
  refine am_run_rows am_OK am_lr [2403] 80 _ _ _ _ _ _ ?_
  refine And.intro ⟨_, rfl, hv 1 (by decide)⟩ (And.intro ⟨_, rfl, hv 2 (by decide)⟩ (Exists.intro 0 (Exists.intro 0 (And.intro (Nat.zero_le _) (And.intro (Nat.zero_le _) ?_)))))
  refine am_cIo (am_C_d (q_cut (Q := fun r r' K => PQ e m r r' K L) hR.2.1 hR.2.2.1 hR.1 (fun r J f => ⟨rfl, t, Rel_q hR f (frL_r L) (Nat.le_succ _)⟩)) (by decide)) (fun r J h ho => ?_)
  refine And.intro ⟨_, rfl, hv 1 (by decide)⟩ (And.intro ⟨_, rfl, hv 2 (by decide)⟩ (Exists.intro 0 (Exists.intro 0 (And.intro (Nat.zero_le _) (And.intro (Nat.zero_le _) ?_)))))
  show am_C am_P 399 mi_X11_cut_ [.ref 73, .int (J am_old (i + nI 1).toNatClampNeg), .int (J am_old (i + nI 2).toNatClampNeg)] (am_st e J L) 0 0 _
  rw [ho]
  exact am_cI (am_C_d h (by decide)) (fun r' K h2 => And.intro (fun _ => And.intro (am_T_lv (hN e h2.2.choose K L rfl h2.2.choose_spec) ⟨rfl, rfl, rfl, rfl, trivial⟩) trivial) (fun q => absurd h2.1 q))
set_option maxRecDepth 100000 in
theorem lc_28 {e : am_V} {I : Nat → Nat → Int32} {L : Nat → Nat → Int64} {t : tw} {m cb sb : Nat} {i : Int32} {Post : Option Value → am_S → Prop} (hR : Rel Bt e t I L m) (hm : m < 1000000) (hv : ∀ k, k < 6 → vp_in (i + nI k) e.2.1) (hN : ∀ e' t' K M, e'.2.1 = e.2.1 → Rel Bt e' t' K M (m + 1) → am_T am_P 400 mi_L_law 2403 (LV i) [] (am_st e' K M) cb sb Post) : am_T am_P 400 mi_L_law 1192 (LV i) [] (am_st e I L) cb sb Post := by
  refine am_run_rows am_OK am_lr [2403] 80 _ _ _ _ _ _ ?_
  refine And.intro ⟨_, rfl, hv 1 (by decide)⟩ (And.intro ⟨_, rfl, hv 2 (by decide)⟩ (And.intro ⟨_, rfl, hv 3 (by decide)⟩ (Exists.intro 0 (Exists.intro 0 (And.intro (Nat.zero_le _) (And.intro (Nat.zero_le _) ?_))))))
  refine am_cIo (am_C_d (q_wall (Q := fun r r' K => PQ e m r r' K L) hR.2.1 hR.2.2.1 hR.1 (fun r J f => ⟨rfl, t, Rel_q hR f (frL_r L) (Nat.le_succ _)⟩)) (by decide)) (fun r J h ho => ?_)
  refine And.intro ⟨_, rfl, hv 1 (by decide)⟩ (And.intro ⟨_, rfl, hv 2 (by decide)⟩ (And.intro ⟨_, rfl, hv 3 (by decide)⟩ (Exists.intro 0 (Exists.intro 0 (And.intro (Nat.zero_le _) (And.intro (Nat.zero_le _) ?_))))))
  show am_C am_P 399 mi_X11_wall [.ref 73, .int (J am_old (i + nI 1).toNatClampNeg), .int (J am_old (i + nI 2).toNatClampNeg), .int (J am_old (i + nI 3).toNatClampNeg)] (am_st e J L) 0 0 _
  rw [ho]
  exact am_cI (am_C_d h (by decide)) (fun r' K h2 => And.intro (fun _ => And.intro (am_T_lv (hN e h2.2.choose K L rfl h2.2.choose_spec) ⟨rfl, rfl, rfl, rfl, trivial⟩) trivial) (fun q => absurd h2.1 q))
set_option maxRecDepth 100000 in
theorem lc_29 {e : am_V} {I : Nat → Nat → Int32} {L : Nat → Nat → Int64} {t : tw} {m cb sb : Nat} {i : Int32} {Post : Option Value → am_S → Prop} (hR : Rel Bt e t I L m) (hm : m < 1000000) (hv : ∀ k, k < 6 → vp_in (i + nI k) e.2.1) (hN : ∀ e' t' K M, e'.2.1 = e.2.1 → Rel Bt e' t' K M (m + 1) → am_T am_P 400 mi_L_law 2403 (LV i) [] (am_st e' K M) cb sb Post) : am_T am_P 400 mi_L_law 1235 (LV i) [] (am_st e I L) cb sb Post := by
  refine am_run_rows am_OK am_lr [2403] 80 _ _ _ _ _ _ ?_
  refine Exists.intro 0 (Exists.intro 0 (And.intro (Nat.zero_le _) (And.intro (Nat.zero_le _) ?_)))
  refine am_cIo (am_C_d (q_day (Q := fun r r' K => PQ e m r r' K L) hR.2.1 hR.2.2.1 hR.1 (fun r J f => ⟨rfl, t, Rel_q hR f (frL_r L) (Nat.le_succ _)⟩)) (by decide)) (fun r J h ho => ?_)
  refine Exists.intro 0 (Exists.intro 0 (And.intro (Nat.zero_le _) (And.intro (Nat.zero_le _) ?_)))
  show am_C am_P 399 mi_X11_day [.ref 73] (am_st e J L) 0 0 _
  exact am_cI (am_C_d h (by decide)) (fun r' K h2 => And.intro (fun _ => And.intro (am_T_lv (hN e h2.2.choose K L rfl h2.2.choose_spec) ⟨rfl, rfl, rfl, rfl, trivial⟩) trivial) (fun q => absurd h2.1 q))
set_option maxRecDepth 100000 in
theorem lc_30 {e : am_V} {I : Nat → Nat → Int32} {L : Nat → Nat → Int64} {t : tw} {m cb sb : Nat} {i : Int32} {Post : Option Value → am_S → Prop} (hR : Rel Bt e t I L m) (hm : m < 1000000) (hv : ∀ k, k < 6 → vp_in (i + nI k) e.2.1) (hN : ∀ e' t' K M, e'.2.1 = e.2.1 → Rel Bt e' t' K M (m + 1) → am_T am_P 400 mi_L_law 2403 (LV i) [] (am_st e' K M) cb sb Post) : am_T am_P 400 mi_L_law 1248 (LV i) [] (am_st e I L) cb sb Post := by
  refine am_run_rows am_OK am_lr [2403] 80 _ _ _ _ _ _ ?_
  refine And.intro ⟨_, rfl, hv 1 (by decide)⟩ (Exists.intro 0 (Exists.intro 0 (And.intro (Nat.zero_le _) (And.intro (Nat.zero_le _) ?_))))
  refine am_cIo (am_C_d (q_goes (Q := fun r r' K => PQ e m r r' K L) hR.2.1 hR.2.2.1 hR.1 (fun r J f => ⟨rfl, t, Rel_q hR f (frL_r L) (Nat.le_succ _)⟩)) (by decide)) (fun r J h ho => ?_)
  refine And.intro ⟨_, rfl, hv 1 (by decide)⟩ (Exists.intro 0 (Exists.intro 0 (And.intro (Nat.zero_le _) (And.intro (Nat.zero_le _) ?_))))
  show am_C am_P 399 mi_X11_goes [.ref 73, .int (J am_old (i + nI 1).toNatClampNeg)] (am_st e J L) 0 0 _
  rw [ho]
  exact am_cI (am_C_d h (by decide)) (fun r' K h2 => And.intro (fun _ => And.intro (am_T_lv (hN e h2.2.choose K L rfl h2.2.choose_spec) ⟨rfl, rfl, rfl, rfl, trivial⟩) trivial) (fun q => absurd h2.1 q))
set_option maxRecDepth 100000 in
theorem lc_31 {e : am_V} {I : Nat → Nat → Int32} {L : Nat → Nat → Int64} {t : tw} {m cb sb : Nat} {i : Int32} {Post : Option Value → am_S → Prop} (hR : Rel Bt e t I L m) (hm : m < 1000000) (hv : ∀ k, k < 6 → vp_in (i + nI k) e.2.1) (hN : ∀ e' t' K M, e'.2.1 = e.2.1 → Rel Bt e' t' K M (m + 1) → am_T am_P 400 mi_L_law 2403 (LV i) [] (am_st e' K M) cb sb Post) : am_T am_P 400 mi_L_law 1271 (LV i) [] (am_st e I L) cb sb Post := by
  refine am_run_rows am_OK am_lr [2403] 80 _ _ _ _ _ _ ?_
  refine Exists.intro 0 (Exists.intro 0 (And.intro (Nat.zero_le _) (And.intro (Nat.zero_le _) ?_)))
  refine am_cIo (am_C_d (q_fails (Q := fun r r' K => PQ e m r r' K L) hR.2.1 hR.2.2.1 hR.1 (fun r J f => ⟨rfl, t, Rel_q hR f (frL_r L) (Nat.le_succ _)⟩)) (by decide)) (fun r J h ho => ?_)
  refine Exists.intro 0 (Exists.intro 0 (And.intro (Nat.zero_le _) (And.intro (Nat.zero_le _) ?_)))
  show am_C am_P 399 mi_X11_fails_ [.ref 73] (am_st e J L) 0 0 _
  exact am_cI (am_C_d h (by decide)) (fun r' K h2 => And.intro (fun _ => And.intro (am_T_lv (hN e h2.2.choose K L rfl h2.2.choose_spec) ⟨rfl, rfl, rfl, rfl, trivial⟩) trivial) (fun q => absurd h2.1 q))
set_option maxRecDepth 100000 in
theorem lc_32 {e : am_V} {I : Nat → Nat → Int32} {L : Nat → Nat → Int64} {t : tw} {m cb sb : Nat} {i : Int32} {Post : Option Value → am_S → Prop} (hR : Rel Bt e t I L m) (hm : m < 1000000) (hv : ∀ k, k < 6 → vp_in (i + nI k) e.2.1) (hN : ∀ e' t' K M, e'.2.1 = e.2.1 → Rel Bt e' t' K M (m + 1) → am_T am_P 400 mi_L_law 2403 (LV i) [] (am_st e' K M) cb sb Post) : am_T am_P 400 mi_L_law 1284 (LV i) [] (am_st e I L) cb sb Post := by
  refine am_run_rows am_OK am_lr [2403] 80 _ _ _ _ _ _ ?_
  refine Exists.intro 0 (Exists.intro 0 (And.intro (Nat.zero_le _) (And.intro (Nat.zero_le _) ?_)))
  refine am_cIo (am_C_d (q_dusk (Q := fun r r' K => PQ e m r r' K L) hR.2.1 hR.2.2.1 hR.1 (fun r J f => ⟨rfl, t, Rel_q hR f (frL_r L) (Nat.le_succ _)⟩)) (by decide)) (fun r J h ho => ?_)
  refine Exists.intro 0 (Exists.intro 0 (And.intro (Nat.zero_le _) (And.intro (Nat.zero_le _) ?_)))
  show am_C am_P 399 mi_X11_dusk [.ref 73] (am_st e J L) 0 0 _
  exact am_cI (am_C_d h (by decide)) (fun r' K h2 => And.intro (fun _ => And.intro (am_T_lv (hN e h2.2.choose K L rfl h2.2.choose_spec) ⟨rfl, rfl, rfl, rfl, trivial⟩) trivial) (fun q => absurd h2.1 q))
set_option maxRecDepth 100000 in
theorem lc_33 {e : am_V} {I : Nat → Nat → Int32} {L : Nat → Nat → Int64} {t : tw} {m cb sb : Nat} {i : Int32} {Post : Option Value → am_S → Prop} (hR : Rel Bt e t I L m) (hm : m < 1000000) (hv : ∀ k, k < 6 → vp_in (i + nI k) e.2.1) (hN : ∀ e' t' K M, e'.2.1 = e.2.1 → Rel Bt e' t' K M (m + 1) → am_T am_P 400 mi_L_law 2403 (LV i) [] (am_st e' K M) cb sb Post) : am_T am_P 400 mi_L_law 1297 (LV i) [] (am_st e I L) cb sb Post := by
  refine am_run_rows am_OK am_lr [2403] 80 _ _ _ _ _ _ ?_
  refine And.intro ⟨_, rfl, hv 1 (by decide)⟩ (And.intro ⟨_, rfl, hv 2 (by decide)⟩ (And.intro ⟨_, rfl, hv 3 (by decide)⟩ (Exists.intro 0 (Exists.intro 0 (And.intro (Nat.zero_le _) (And.intro (Nat.zero_le _) ?_))))))
  refine am_cIo (am_C_d (q_spent (Q := fun r r' K => PQ e m r r' K L) hR.2.1 hR.2.2.1 hR.1 (fun r J f => ⟨rfl, t, Rel_q hR f (frL_r L) (Nat.le_succ _)⟩)) (by decide)) (fun r J h ho => ?_)
  refine And.intro ⟨_, rfl, hv 1 (by decide)⟩ (And.intro ⟨_, rfl, hv 2 (by decide)⟩ (And.intro ⟨_, rfl, hv 3 (by decide)⟩ (Exists.intro 0 (Exists.intro 0 (And.intro (Nat.zero_le _) (And.intro (Nat.zero_le _) ?_))))))
  show am_C am_P 399 mi_X11_spent [.ref 73, .int (J am_old (i + nI 1).toNatClampNeg), .int (J am_old (i + nI 2).toNatClampNeg), .int (J am_old (i + nI 3).toNatClampNeg)] (am_st e J L) 0 0 _
  rw [ho]
  exact am_cI (am_C_d h (by decide)) (fun r' K h2 => And.intro (fun _ => And.intro (am_T_lv (hN e h2.2.choose K L rfl h2.2.choose_spec) ⟨rfl, rfl, rfl, rfl, trivial⟩) trivial) (fun q => absurd h2.1 q))
set_option maxRecDepth 100000 in
theorem lc_34 {e : am_V} {I : Nat → Nat → Int32} {L : Nat → Nat → Int64} {t : tw} {m cb sb : Nat} {i : Int32} {Post : Option Value → am_S → Prop} (hR : Rel Bt e t I L m) (hm : m < 1000000) (hv : ∀ k, k < 6 → vp_in (i + nI k) e.2.1) (hN : ∀ e' t' K M, e'.2.1 = e.2.1 → Rel Bt e' t' K M (m + 1) → am_T am_P 400 mi_L_law 2403 (LV i) [] (am_st e' K M) cb sb Post) : am_T am_P 400 mi_L_law 1340 (LV i) [] (am_st e I L) cb sb Post := by
  refine am_run_rows am_OK am_lr [2403] 80 _ _ _ _ _ _ ?_
  refine Exists.intro 0 (Exists.intro 0 (And.intro (Nat.zero_le _) (And.intro (Nat.zero_le _) ?_)))
  refine am_cIo (am_C_d (r_dawn (Q := fun r r' K => PQ e m r r' K L) hR (fun r J h => ⟨rfl, t, Rel_s1 h⟩)) (by decide)) (fun r J h ho => ?_)
  refine Exists.intro 0 (Exists.intro 0 (And.intro (Nat.zero_le _) (And.intro (Nat.zero_le _) ?_)))
  show am_C am_P 399 mi_X11_dawn [.ref 73] (am_st e J L) 0 0 _
  exact am_cI (am_C_d h (by decide)) (fun r' K h2 => And.intro (fun _ => And.intro (am_T_lv (hN e h2.2.choose K L rfl h2.2.choose_spec) ⟨rfl, rfl, rfl, rfl, trivial⟩) trivial) (fun q => absurd h2.1 q))
set_option maxRecDepth 100000 in
theorem lc_35 {e : am_V} {I : Nat → Nat → Int32} {L : Nat → Nat → Int64} {t : tw} {m cb sb : Nat} {i : Int32} {Post : Option Value → am_S → Prop} (hR : Rel Bt e t I L m) (hm : m < 1000000) (hv : ∀ k, k < 6 → vp_in (i + nI k) e.2.1) (hN : ∀ e' t' K M, e'.2.1 = e.2.1 → Rel Bt e' t' K M (m + 1) → am_T am_P 400 mi_L_law 2403 (LV i) [] (am_st e' K M) cb sb Post) : am_T am_P 400 mi_L_law 1353 (LV i) [] (am_st e I L) cb sb Post := by
  refine am_run_rows am_OK am_lr [2403] 80 _ _ _ _ _ _ ?_
  refine And.intro ⟨_, rfl, hv 1 (by decide)⟩ (Exists.intro 0 (Exists.intro 0 (And.intro (Nat.zero_le _) (And.intro (Nat.zero_le _) ?_))))
  refine am_cIo (am_C_d (r_first (Q := fun r r' K => PQ e m r r' K L) hR (fun r J h => ⟨rfl, t, Rel_s1 h⟩)) (by decide)) (fun r J h ho => ?_)
  refine And.intro ⟨_, rfl, hv 1 (by decide)⟩ (Exists.intro 0 (Exists.intro 0 (And.intro (Nat.zero_le _) (And.intro (Nat.zero_le _) ?_))))
  show am_C am_P 399 mi_X11_first [.ref 73, .int (J am_old (i + nI 1).toNatClampNeg)] (am_st e J L) 0 0 _
  rw [ho]
  exact am_cI (am_C_d h (by decide)) (fun r' K h2 => And.intro (fun _ => And.intro (am_T_lv (hN e h2.2.choose K L rfl h2.2.choose_spec) ⟨rfl, rfl, rfl, rfl, trivial⟩) trivial) (fun q => absurd h2.1 q))
set_option maxRecDepth 100000 in
theorem lc_36 {e : am_V} {I : Nat → Nat → Int32} {L : Nat → Nat → Int64} {t : tw} {m cb sb : Nat} {i : Int32} {Post : Option Value → am_S → Prop} (hR : Rel Bt e t I L m) (hm : m < 1000000) (hv : ∀ k, k < 6 → vp_in (i + nI k) e.2.1) (hN : ∀ e' t' K M, e'.2.1 = e.2.1 → Rel Bt e' t' K M (m + 1) → am_T am_P 400 mi_L_law 2403 (LV i) [] (am_st e' K M) cb sb Post) : am_T am_P 400 mi_L_law 1376 (LV i) [] (am_st e I L) cb sb Post := by
  refine am_run_rows am_OK am_lr [2403] 80 _ _ _ _ _ _ ?_
  refine Exists.intro 0 (Exists.intro 0 (And.intro (Nat.zero_le _) (And.intro (Nat.zero_le _) ?_)))
  refine am_cIo (am_C_d (r_least (Q := fun r r' K => PQ e m r r' K L) hR (fun r J h => ⟨rfl, t, Rel_s1 h⟩)) (by decide)) (fun r J h ho => ?_)
  refine Exists.intro 0 (Exists.intro 0 (And.intro (Nat.zero_le _) (And.intro (Nat.zero_le _) ?_)))
  show am_C am_P 399 mi_X11_least [.ref 73] (am_st e J L) 0 0 _
  exact am_cI (am_C_d h (by decide)) (fun r' K h2 => And.intro (fun _ => And.intro (am_T_lv (hN e h2.2.choose K L rfl h2.2.choose_spec) ⟨rfl, rfl, rfl, rfl, trivial⟩) trivial) (fun q => absurd h2.1 q))
set_option maxRecDepth 100000 in
theorem lc_37 {e : am_V} {I : Nat → Nat → Int32} {L : Nat → Nat → Int64} {t : tw} {m cb sb : Nat} {i : Int32} {Post : Option Value → am_S → Prop} (hR : Rel Bt e t I L m) (hm : m < 1000000) (hv : ∀ k, k < 6 → vp_in (i + nI k) e.2.1) (hN : ∀ e' t' K M, e'.2.1 = e.2.1 → Rel Bt e' t' K M (m + 1) → am_T am_P 400 mi_L_law 2403 (LV i) [] (am_st e' K M) cb sb Post) : am_T am_P 400 mi_L_law 1389 (LV i) [] (am_st e I L) cb sb Post := by
  refine am_run_rows am_OK am_lr [2403] 80 _ _ _ _ _ _ ?_
  refine And.intro ⟨_, rfl, hv 1 (by decide)⟩ (Exists.intro 0 (Exists.intro 0 (And.intro (Nat.zero_le _) (And.intro (Nat.zero_le _) ?_))))
  refine am_cIo (am_C_d (q_spares (Q := fun r r' K => PQ e m r r' K L) hR.2.1 hR.2.2.1 hR.1 (fun r J f => ⟨rfl, t, Rel_q hR f (frL_r L) (Nat.le_succ _)⟩)) (by decide)) (fun r J h ho => ?_)
  refine And.intro ⟨_, rfl, hv 1 (by decide)⟩ (Exists.intro 0 (Exists.intro 0 (And.intro (Nat.zero_le _) (And.intro (Nat.zero_le _) ?_))))
  show am_C am_P 399 mi_X11_spares [.ref 73, .int (J am_old (i + nI 1).toNatClampNeg)] (am_st e J L) 0 0 _
  rw [ho]
  exact am_cI (am_C_d h (by decide)) (fun r' K h2 => And.intro (fun _ => And.intro (am_T_lv (hN e h2.2.choose K L rfl h2.2.choose_spec) ⟨rfl, rfl, rfl, rfl, trivial⟩) trivial) (fun q => absurd h2.1 q))
set_option maxRecDepth 100000 in
theorem lc_38 {e : am_V} {I : Nat → Nat → Int32} {L : Nat → Nat → Int64} {t : tw} {m cb sb : Nat} {i : Int32} {Post : Option Value → am_S → Prop} (hR : Rel Bt e t I L m) (hm : m < 1000000) (hv : ∀ k, k < 6 → vp_in (i + nI k) e.2.1) (hN : ∀ e' t' K M, e'.2.1 = e.2.1 → Rel Bt e' t' K M (m + 1) → am_T am_P 400 mi_L_law 2403 (LV i) [] (am_st e' K M) cb sb Post) : am_T am_P 400 mi_L_law 1412 (LV i) [] (am_st e I L) cb sb Post := by
  refine am_run_rows am_OK am_lr [2403] 80 _ _ _ _ _ _ ?_
  refine And.intro ⟨_, rfl, hv 1 (by decide)⟩ (And.intro ⟨_, rfl, hv 2 (by decide)⟩ (And.intro ⟨_, rfl, hv 3 (by decide)⟩ (Exists.intro 0 (Exists.intro 0 (And.intro (Nat.zero_le _) (And.intro (Nat.zero_le _) ?_))))))
  refine am_cIo (am_C_d (q_demand (Q := fun r r' K => PQ e m r r' K L) hR.2.1 hR.2.2.1 hR.1 (fun r J f => ⟨rfl, t, Rel_q hR f (frL_r L) (Nat.le_succ _)⟩)) (by decide)) (fun r J h ho => ?_)
  refine And.intro ⟨_, rfl, hv 1 (by decide)⟩ (And.intro ⟨_, rfl, hv 2 (by decide)⟩ (And.intro ⟨_, rfl, hv 3 (by decide)⟩ (Exists.intro 0 (Exists.intro 0 (And.intro (Nat.zero_le _) (And.intro (Nat.zero_le _) ?_))))))
  show am_C am_P 399 mi_X11_demand [.ref 73, .int (J am_old (i + nI 1).toNatClampNeg), .int (J am_old (i + nI 2).toNatClampNeg), .int (J am_old (i + nI 3).toNatClampNeg)] (am_st e J L) 0 0 _
  rw [ho]
  exact am_cI (am_C_d h (by decide)) (fun r' K h2 => And.intro (fun _ => And.intro (am_T_lv (hN e h2.2.choose K L rfl h2.2.choose_spec) ⟨rfl, rfl, rfl, rfl, trivial⟩) trivial) (fun q => absurd h2.1 q))
set_option maxRecDepth 100000 in
theorem lc_39 {e : am_V} {I : Nat → Nat → Int32} {L : Nat → Nat → Int64} {t : tw} {m cb sb : Nat} {i : Int32} {Post : Option Value → am_S → Prop} (hR : Rel Bt e t I L m) (hm : m < 1000000) (hv : ∀ k, k < 6 → vp_in (i + nI k) e.2.1) (hN : ∀ e' t' K M, e'.2.1 = e.2.1 → Rel Bt e' t' K M (m + 1) → am_T am_P 400 mi_L_law 2403 (LV i) [] (am_st e' K M) cb sb Post) : am_T am_P 400 mi_L_law 1455 (LV i) [] (am_st e I L) cb sb Post := by
  refine am_run_rows am_OK am_lr [2403] 80 _ _ _ _ _ _ ?_
  refine Exists.intro 0 (Exists.intro 0 (And.intro (Nat.zero_le _) (And.intro (Nat.zero_le _) ?_)))
  refine am_cIo (am_C_d (q_dearest (Q := fun r r' K => PQ e m r r' K L) hR.2.1 hR.2.2.1 hR.1 (fun r J f => ⟨rfl, t, Rel_q hR f (frL_r L) (Nat.le_succ _)⟩)) (by decide)) (fun r J h ho => ?_)
  refine Exists.intro 0 (Exists.intro 0 (And.intro (Nat.zero_le _) (And.intro (Nat.zero_le _) ?_)))
  show am_C am_P 399 mi_X11_dearest [.ref 73] (am_st e J L) 0 0 _
  exact am_cI (am_C_d h (by decide)) (fun r' K h2 => And.intro (fun _ => And.intro (am_T_lv (hN e h2.2.choose K L rfl h2.2.choose_spec) ⟨rfl, rfl, rfl, rfl, trivial⟩) trivial) (fun q => absurd h2.1 q))
set_option maxRecDepth 100000 in
theorem lc_40 {e : am_V} {I : Nat → Nat → Int32} {L : Nat → Nat → Int64} {t : tw} {m cb sb : Nat} {i : Int32} {Post : Option Value → am_S → Prop} (hR : Rel Bt e t I L m) (hm : m < 1000000) (hv : ∀ k, k < 6 → vp_in (i + nI k) e.2.1) (hN : ∀ e' t' K M, e'.2.1 = e.2.1 → Rel Bt e' t' K M (m + 1) → am_T am_P 400 mi_L_law 2403 (LV i) [] (am_st e' K M) cb sb Post) : am_T am_P 400 mi_L_law 1468 (LV i) [] (am_st e I L) cb sb Post := by
  refine am_run_rows am_OK am_lr [2403] 80 _ _ _ _ _ _ ?_
  refine And.intro ⟨_, rfl, hv 1 (by decide)⟩ (Exists.intro 0 (Exists.intro 0 (And.intro (Nat.zero_le _) (And.intro (Nat.zero_le _) ?_))))
  refine am_cIo (am_C_d (q_noon (Q := fun r r' K => PQ e m r r' K L) hR.2.1 hR.2.2.1 hR.1 (fun r J f => ⟨rfl, t, Rel_q hR f (frL_r L) (Nat.le_succ _)⟩)) (by decide)) (fun r J h ho => ?_)
  refine And.intro ⟨_, rfl, hv 1 (by decide)⟩ (Exists.intro 0 (Exists.intro 0 (And.intro (Nat.zero_le _) (And.intro (Nat.zero_le _) ?_))))
  show am_C am_P 399 mi_X11_noon [.ref 73, .int (J am_old (i + nI 1).toNatClampNeg)] (am_st e J L) 0 0 _
  rw [ho]
  exact am_cI (am_C_d h (by decide)) (fun r' K h2 => And.intro (fun _ => And.intro (am_T_lv (hN e h2.2.choose K L rfl h2.2.choose_spec) ⟨rfl, rfl, rfl, rfl, trivial⟩) trivial) (fun q => absurd h2.1 q))
set_option maxRecDepth 100000 in
theorem lc_41 {e : am_V} {I : Nat → Nat → Int32} {L : Nat → Nat → Int64} {t : tw} {m cb sb : Nat} {i : Int32} {Post : Option Value → am_S → Prop} (hR : Rel Bt e t I L m) (hm : m < 1000000) (hv : ∀ k, k < 6 → vp_in (i + nI k) e.2.1) (hN : ∀ e' t' K M, e'.2.1 = e.2.1 → Rel Bt e' t' K M (m + 1) → am_T am_P 400 mi_L_law 2403 (LV i) [] (am_st e' K M) cb sb Post) : am_T am_P 400 mi_L_law 1491 (LV i) [] (am_st e I L) cb sb Post := by
  refine am_run_rows am_OK am_lr [2403] 80 _ _ _ _ _ _ ?_
  refine Exists.intro 0 (Exists.intro 0 (And.intro (Nat.zero_le _) (And.intro (Nat.zero_le _) ?_)))
  refine am_cIo (am_C_d (q_round (Q := fun r r' K => PQ e m r r' K L) hR.2.1 hR.2.2.1 hR.1 (fun r J f => ⟨rfl, t, Rel_q hR f (frL_r L) (Nat.le_succ _)⟩)) (by decide)) (fun r J h ho => ?_)
  refine Exists.intro 0 (Exists.intro 0 (And.intro (Nat.zero_le _) (And.intro (Nat.zero_le _) ?_)))
  show am_C am_P 399 mi_X11_round [.ref 73] (am_st e J L) 0 0 _
  exact am_cI (am_C_d h (by decide)) (fun r' K h2 => And.intro (fun _ => And.intro (am_T_lv (hN e h2.2.choose K L rfl h2.2.choose_spec) ⟨rfl, rfl, rfl, rfl, trivial⟩) trivial) (fun q => absurd h2.1 q))
set_option maxRecDepth 100000 in
theorem lc_42 {e : am_V} {I : Nat → Nat → Int32} {L : Nat → Nat → Int64} {t : tw} {m cb sb : Nat} {i : Int32} {Post : Option Value → am_S → Prop} (hR : Rel Bt e t I L m) (hm : m < 1000000) (hv : ∀ k, k < 6 → vp_in (i + nI k) e.2.1) (hN : ∀ e' t' K M, e'.2.1 = e.2.1 → Rel Bt e' t' K M (m + 1) → am_T am_P 400 mi_L_law 2403 (LV i) [] (am_st e' K M) cb sb Post) : am_T am_P 400 mi_L_law 1504 (LV i) [] (am_st e I L) cb sb Post := by
  refine am_run_rows am_OK am_lr [2403] 80 _ _ _ _ _ _ ?_
  refine Exists.intro 0 (Exists.intro 0 (And.intro (Nat.zero_le _) (And.intro (Nat.zero_le _) ?_)))
  refine am_cIo (am_C_d (q_uneven (Q := fun r r' K => PQ e m r r' K L) hR.2.1 hR.2.2.1 hR.1 (fun r J f => ⟨rfl, t, Rel_q hR f (frL_r L) (Nat.le_succ _)⟩)) (by decide)) (fun r J h ho => ?_)
  refine Exists.intro 0 (Exists.intro 0 (And.intro (Nat.zero_le _) (And.intro (Nat.zero_le _) ?_)))
  show am_C am_P 399 mi_X11_uneven [.ref 73] (am_st e J L) 0 0 _
  exact am_cI (am_C_d h (by decide)) (fun r' K h2 => And.intro (fun _ => And.intro (am_T_lv (hN e h2.2.choose K L rfl h2.2.choose_spec) ⟨rfl, rfl, rfl, rfl, trivial⟩) trivial) (fun q => absurd h2.1 q))
set_option maxRecDepth 100000 in
theorem lc_43 {e : am_V} {I : Nat → Nat → Int32} {L : Nat → Nat → Int64} {t : tw} {m cb sb : Nat} {i : Int32} {Post : Option Value → am_S → Prop} (hR : Rel Bt e t I L m) (hm : m < 1000000) (hv : ∀ k, k < 6 → vp_in (i + nI k) e.2.1) (hN : ∀ e' t' K M, e'.2.1 = e.2.1 → Rel Bt e' t' K M (m + 1) → am_T am_P 400 mi_L_law 2403 (LV i) [] (am_st e' K M) cb sb Post) : am_T am_P 400 mi_L_law 1517 (LV i) [] (am_st e I L) cb sb Post := by
  refine am_run_rows am_OK am_lr [2403] 80 _ _ _ _ _ _ ?_
  refine And.intro ⟨_, rfl, hv 1 (by decide)⟩ (And.intro ⟨_, rfl, hv 2 (by decide)⟩ (Exists.intro 0 (Exists.intro 0 (And.intro (Nat.zero_le _) (And.intro (Nat.zero_le _) ?_)))))
  refine am_cIo (am_C_d (q_wins (Q := fun r r' K => PQ e m r r' K L) hR.2.1 hR.2.2.1 hR.1 (fun r J f => ⟨rfl, t, Rel_q hR f (frL_r L) (Nat.le_succ _)⟩)) (by decide)) (fun r J h ho => ?_)
  refine And.intro ⟨_, rfl, hv 1 (by decide)⟩ (And.intro ⟨_, rfl, hv 2 (by decide)⟩ (Exists.intro 0 (Exists.intro 0 (And.intro (Nat.zero_le _) (And.intro (Nat.zero_le _) ?_)))))
  show am_C am_P 399 mi_X11_wins [.ref 73, .int (J am_old (i + nI 1).toNatClampNeg), .int (J am_old (i + nI 2).toNatClampNeg)] (am_st e J L) 0 0 _
  rw [ho]
  exact am_cI (am_C_d h (by decide)) (fun r' K h2 => And.intro (fun _ => And.intro (am_T_lv (hN e h2.2.choose K L rfl h2.2.choose_spec) ⟨rfl, rfl, rfl, rfl, trivial⟩) trivial) (fun q => absurd h2.1 q))
set_option maxRecDepth 100000 in
theorem lc_44 {e : am_V} {I : Nat → Nat → Int32} {L : Nat → Nat → Int64} {t : tw} {m cb sb : Nat} {i : Int32} {Post : Option Value → am_S → Prop} (hR : Rel Bt e t I L m) (hm : m < 1000000) (hv : ∀ k, k < 6 → vp_in (i + nI k) e.2.1) (hN : ∀ e' t' K M, e'.2.1 = e.2.1 → Rel Bt e' t' K M (m + 1) → am_T am_P 400 mi_L_law 2403 (LV i) [] (am_st e' K M) cb sb Post) : am_T am_P 400 mi_L_law 1550 (LV i) [] (am_st e I L) cb sb Post := by
  refine am_run_rows am_OK am_lr [2403] 80 _ _ _ _ _ _ ?_
  refine And.intro ⟨_, rfl, hv 1 (by decide)⟩ (And.intro ⟨_, rfl, hv 2 (by decide)⟩ (Exists.intro 0 (Exists.intro 0 (And.intro (Nat.zero_le _) (And.intro (Nat.zero_le _) ?_)))))
  refine am_cIo (am_C_d (q_turn (Q := fun r r' K => PQ e m r r' K L) hR.2.1 hR.2.2.1 hR.1 (fun r J f => ⟨rfl, t, Rel_q hR f (frL_r L) (Nat.le_succ _)⟩)) (by decide)) (fun r J h ho => ?_)
  refine And.intro ⟨_, rfl, hv 1 (by decide)⟩ (And.intro ⟨_, rfl, hv 2 (by decide)⟩ (Exists.intro 0 (Exists.intro 0 (And.intro (Nat.zero_le _) (And.intro (Nat.zero_le _) ?_)))))
  show am_C am_P 399 mi_X11_turn [.ref 73, .int (J am_old (i + nI 1).toNatClampNeg), .int (J am_old (i + nI 2).toNatClampNeg)] (am_st e J L) 0 0 _
  rw [ho]
  exact am_cI (am_C_d h (by decide)) (fun r' K h2 => And.intro (fun _ => And.intro (am_T_lv (hN e h2.2.choose K L rfl h2.2.choose_spec) ⟨rfl, rfl, rfl, rfl, trivial⟩) trivial) (fun q => absurd h2.1 q))
set_option maxRecDepth 100000 in
theorem lc_45 {e : am_V} {I : Nat → Nat → Int32} {L : Nat → Nat → Int64} {t : tw} {m cb sb : Nat} {i : Int32} {Post : Option Value → am_S → Prop} (hR : Rel Bt e t I L m) (hm : m < 1000000) (hv : ∀ k, k < 6 → vp_in (i + nI k) e.2.1) (hN : ∀ e' t' K M, e'.2.1 = e.2.1 → Rel Bt e' t' K M (m + 1) → am_T am_P 400 mi_L_law 2403 (LV i) [] (am_st e' K M) cb sb Post) : am_T am_P 400 mi_L_law 1583 (LV i) [] (am_st e I L) cb sb Post := by
  refine am_run_rows am_OK am_lr [2403] 80 _ _ _ _ _ _ ?_
  refine And.intro ⟨_, rfl, hv 1 (by decide)⟩ (And.intro ⟨_, rfl, hv 2 (by decide)⟩ (And.intro ⟨_, rfl, hv 3 (by decide)⟩ (Exists.intro 0 (Exists.intro 0 (And.intro (Nat.zero_le _) (And.intro (Nat.zero_le _) ?_))))))
  refine am_cIo (am_C_d (q_chase (Q := fun r r' K => PQ e m r r' K L) hR.2.1 hR.2.2.1 hR.1 (fun r J f => ⟨rfl, t, Rel_q hR f (frL_r L) (Nat.le_succ _)⟩)) (by decide)) (fun r J h ho => ?_)
  refine And.intro ⟨_, rfl, hv 1 (by decide)⟩ (And.intro ⟨_, rfl, hv 2 (by decide)⟩ (And.intro ⟨_, rfl, hv 3 (by decide)⟩ (Exists.intro 0 (Exists.intro 0 (And.intro (Nat.zero_le _) (And.intro (Nat.zero_le _) ?_))))))
  show am_C am_P 399 mi_X11_chase [.ref 73, .int (J am_old (i + nI 1).toNatClampNeg), .int (J am_old (i + nI 2).toNatClampNeg), .int (J am_old (i + nI 3).toNatClampNeg)] (am_st e J L) 0 0 _
  rw [ho]
  exact am_cI (am_C_d h (by decide)) (fun r' K h2 => And.intro (fun _ => And.intro (am_T_lv (hN e h2.2.choose K L rfl h2.2.choose_spec) ⟨rfl, rfl, rfl, rfl, trivial⟩) trivial) (fun q => absurd h2.1 q))
set_option maxRecDepth 100000 in
theorem lc_46 {e : am_V} {I : Nat → Nat → Int32} {L : Nat → Nat → Int64} {t : tw} {m cb sb : Nat} {i : Int32} {Post : Option Value → am_S → Prop} (hR : Rel Bt e t I L m) (hm : m < 1000000) (hv : ∀ k, k < 6 → vp_in (i + nI k) e.2.1) (hN : ∀ e' t' K M, e'.2.1 = e.2.1 → Rel Bt e' t' K M (m + 1) → am_T am_P 400 mi_L_law 2403 (LV i) [] (am_st e' K M) cb sb Post) : am_T am_P 400 mi_L_law 1626 (LV i) [] (am_st e I L) cb sb Post := by
  refine am_run_rows am_OK am_lr [2403] 80 _ _ _ _ _ _ ?_
  refine And.intro ⟨_, rfl, hv 1 (by decide)⟩ (And.intro ⟨_, rfl, hv 2 (by decide)⟩ (And.intro ⟨_, rfl, hv 3 (by decide)⟩ (Exists.intro 0 (Exists.intro 0 (And.intro (Nat.zero_le _) (And.intro (Nat.zero_le _) ?_))))))
  refine am_cIo (am_C_d (q_walks (Q := fun r r' K => PQ e m r r' K L) hR.2.1 hR.2.2.1 hR.1 (fun r J f => ⟨rfl, t, Rel_q hR f (frL_r L) (Nat.le_succ _)⟩)) (by decide)) (fun r J h ho => ?_)
  refine And.intro ⟨_, rfl, hv 1 (by decide)⟩ (And.intro ⟨_, rfl, hv 2 (by decide)⟩ (And.intro ⟨_, rfl, hv 3 (by decide)⟩ (Exists.intro 0 (Exists.intro 0 (And.intro (Nat.zero_le _) (And.intro (Nat.zero_le _) ?_))))))
  show am_C am_P 399 mi_X11_walks_ [.ref 73, .int (J am_old (i + nI 1).toNatClampNeg), .int (J am_old (i + nI 2).toNatClampNeg), .int (J am_old (i + nI 3).toNatClampNeg)] (am_st e J L) 0 0 _
  rw [ho]
  exact am_cI (am_C_d h (by decide)) (fun r' K h2 => And.intro (fun _ => And.intro (am_T_lv (hN e h2.2.choose K L rfl h2.2.choose_spec) ⟨rfl, rfl, rfl, rfl, trivial⟩) trivial) (fun q => absurd h2.1 q))
set_option maxRecDepth 100000 in
theorem lc_47 {e : am_V} {I : Nat → Nat → Int32} {L : Nat → Nat → Int64} {t : tw} {m cb sb : Nat} {i : Int32} {Post : Option Value → am_S → Prop} (hR : Rel Bt e t I L m) (hm : m < 1000000) (hv : ∀ k, k < 6 → vp_in (i + nI k) e.2.1) (hN : ∀ e' t' K M, e'.2.1 = e.2.1 → Rel Bt e' t' K M (m + 1) → am_T am_P 400 mi_L_law 2403 (LV i) [] (am_st e' K M) cb sb Post) : am_T am_P 400 mi_L_law 1669 (LV i) [] (am_st e I L) cb sb Post := by
  refine am_run_rows am_OK am_lr [2403] 80 _ _ _ _ _ _ ?_
  refine And.intro ⟨_, rfl, hv 1 (by decide)⟩ (And.intro ⟨_, rfl, hv 2 (by decide)⟩ (And.intro ⟨_, rfl, hv 3 (by decide)⟩ (Exists.intro 0 (Exists.intro 0 (And.intro (Nat.zero_le _) (And.intro (Nat.zero_le _) ?_))))))
  refine am_cIo (am_C_d (q_sure (Q := fun r r' K => PQ e m r r' K L) hR.2.1 hR.2.2.1 hR.1 (fun r J f => ⟨rfl, t, Rel_q hR f (frL_r L) (Nat.le_succ _)⟩)) (by decide)) (fun r J h ho => ?_)
  refine And.intro ⟨_, rfl, hv 1 (by decide)⟩ (And.intro ⟨_, rfl, hv 2 (by decide)⟩ (And.intro ⟨_, rfl, hv 3 (by decide)⟩ (Exists.intro 0 (Exists.intro 0 (And.intro (Nat.zero_le _) (And.intro (Nat.zero_le _) ?_))))))
  show am_C am_P 399 mi_X11_sure [.ref 73, .int (J am_old (i + nI 1).toNatClampNeg), .int (J am_old (i + nI 2).toNatClampNeg), .int (J am_old (i + nI 3).toNatClampNeg)] (am_st e J L) 0 0 _
  rw [ho]
  exact am_cI (am_C_d h (by decide)) (fun r' K h2 => And.intro (fun _ => And.intro (am_T_lv (hN e h2.2.choose K L rfl h2.2.choose_spec) ⟨rfl, rfl, rfl, rfl, trivial⟩) trivial) (fun q => absurd h2.1 q))
set_option maxRecDepth 100000 in
theorem lc_48 {e : am_V} {I : Nat → Nat → Int32} {L : Nat → Nat → Int64} {t : tw} {m cb sb : Nat} {i : Int32} {Post : Option Value → am_S → Prop} (hR : Rel Bt e t I L m) (hm : m < 1000000) (hv : ∀ k, k < 6 → vp_in (i + nI k) e.2.1) (hN : ∀ e' t' K M, e'.2.1 = e.2.1 → Rel Bt e' t' K M (m + 1) → am_T am_P 400 mi_L_law 2403 (LV i) [] (am_st e' K M) cb sb Post) : am_T am_P 400 mi_L_law 1712 (LV i) [] (am_st e I L) cb sb Post := by
  refine am_run_rows am_OK am_lr [2403] 80 _ _ _ _ _ _ ?_
  refine And.intro ⟨_, rfl, hv 1 (by decide)⟩ (And.intro ⟨_, rfl, hv 2 (by decide)⟩ (Exists.intro 0 (Exists.intro 0 (And.intro (Nat.zero_le _) (And.intro (Nat.zero_le _) ?_)))))
  refine am_cIo (am_C_d (q_ends (Q := fun r r' K => PQ e m r r' K L) hR.2.1 hR.2.2.1 hR.1 (fun r J f => ⟨rfl, t, Rel_q hR f (frL_r L) (Nat.le_succ _)⟩)) (by decide)) (fun r J h ho => ?_)
  refine And.intro ⟨_, rfl, hv 1 (by decide)⟩ (And.intro ⟨_, rfl, hv 2 (by decide)⟩ (Exists.intro 0 (Exists.intro 0 (And.intro (Nat.zero_le _) (And.intro (Nat.zero_le _) ?_)))))
  show am_C am_P 399 mi_X11_ends_ [.ref 73, .int (J am_old (i + nI 1).toNatClampNeg), .int (J am_old (i + nI 2).toNatClampNeg)] (am_st e J L) 0 0 _
  rw [ho]
  exact am_cI (am_C_d h (by decide)) (fun r' K h2 => And.intro (fun _ => And.intro (am_T_lv (hN e h2.2.choose K L rfl h2.2.choose_spec) ⟨rfl, rfl, rfl, rfl, trivial⟩) trivial) (fun q => absurd h2.1 q))
set_option maxRecDepth 100000 in
theorem lc_49 {e : am_V} {I : Nat → Nat → Int32} {L : Nat → Nat → Int64} {t : tw} {m cb sb : Nat} {i : Int32} {Post : Option Value → am_S → Prop} (hR : Rel Bt e t I L m) (hm : m < 1000000) (hv : ∀ k, k < 6 → vp_in (i + nI k) e.2.1) (hN : ∀ e' t' K M, e'.2.1 = e.2.1 → Rel Bt e' t' K M (m + 1) → am_T am_P 400 mi_L_law 2403 (LV i) [] (am_st e' K M) cb sb Post) : am_T am_P 400 mi_L_law 1745 (LV i) [] (am_st e I L) cb sb Post := by
  refine am_run_rows am_OK am_lr [2403] 80 _ _ _ _ _ _ ?_
  refine And.intro ⟨_, rfl, hv 1 (by decide)⟩ (And.intro ⟨_, rfl, hv 2 (by decide)⟩ (Exists.intro 0 (Exists.intro 0 (And.intro (Nat.zero_le _) (And.intro (Nat.zero_le _) ?_)))))
  refine am_cIo (am_C_d (q_wide (Q := fun r r' K => PQ e m r r' K L) hR.2.1 hR.2.2.1 hR.1 (fun r J f => ⟨rfl, t, Rel_q hR f (frL_r L) (Nat.le_succ _)⟩)) (by decide)) (fun r J h ho => ?_)
  refine And.intro ⟨_, rfl, hv 1 (by decide)⟩ (And.intro ⟨_, rfl, hv 2 (by decide)⟩ (Exists.intro 0 (Exists.intro 0 (And.intro (Nat.zero_le _) (And.intro (Nat.zero_le _) ?_)))))
  show am_C am_P 399 mi_X11_wide [.ref 73, .int (J am_old (i + nI 1).toNatClampNeg), .int (J am_old (i + nI 2).toNatClampNeg)] (am_st e J L) 0 0 _
  rw [ho]
  exact am_cI (am_C_d h (by decide)) (fun r' K h2 => And.intro (fun _ => And.intro (am_T_lv (hN e h2.2.choose K L rfl h2.2.choose_spec) ⟨rfl, rfl, rfl, rfl, trivial⟩) trivial) (fun q => absurd h2.1 q))
set_option maxRecDepth 100000 in
theorem lc_50 {e : am_V} {I : Nat → Nat → Int32} {L : Nat → Nat → Int64} {t : tw} {m cb sb : Nat} {i : Int32} {Post : Option Value → am_S → Prop} (hR : Rel Bt e t I L m) (hm : m < 1000000) (hv : ∀ k, k < 6 → vp_in (i + nI k) e.2.1) (hN : ∀ e' t' K M, e'.2.1 = e.2.1 → Rel Bt e' t' K M (m + 1) → am_T am_P 400 mi_L_law 2403 (LV i) [] (am_st e' K M) cb sb Post) : am_T am_P 400 mi_L_law 1778 (LV i) [] (am_st e I L) cb sb Post := by
  refine am_run_rows am_OK am_lr [2403] 80 _ _ _ _ _ _ ?_
  refine And.intro ⟨_, rfl, hv 1 (by decide)⟩ (And.intro ⟨_, rfl, hv 2 (by decide)⟩ (Exists.intro 0 (Exists.intro 0 (And.intro (Nat.zero_le _) (And.intro (Nat.zero_le _) ?_)))))
  refine am_cIo (am_C_d (q_fits (Q := fun r r' K => PQ e m r r' K L) hR.2.1 hR.2.2.1 hR.1 hR.2.2.2.2.1 (fun r J f => ⟨rfl, t, Rel_q hR f (frL_r L) (Nat.le_succ _)⟩)) (by decide)) (fun r J h ho => ?_)
  refine And.intro ⟨_, rfl, hv 1 (by decide)⟩ (And.intro ⟨_, rfl, hv 2 (by decide)⟩ (Exists.intro 0 (Exists.intro 0 (And.intro (Nat.zero_le _) (And.intro (Nat.zero_le _) ?_)))))
  show am_C am_P 399 mi_X11_fits [.ref 73, .int (J am_old (i + nI 1).toNatClampNeg), .int (J am_old (i + nI 2).toNatClampNeg)] (am_st e J L) 0 0 _
  rw [ho]
  exact am_cI (am_C_d h (by decide)) (fun r' K h2 => And.intro (fun _ => And.intro (am_T_lv (hN e h2.2.choose K L rfl h2.2.choose_spec) ⟨rfl, rfl, rfl, rfl, trivial⟩) trivial) (fun q => absurd h2.1 q))
set_option maxRecDepth 100000 in
theorem lc_51 {e : am_V} {I : Nat → Nat → Int32} {L : Nat → Nat → Int64} {t : tw} {m cb sb : Nat} {i : Int32} {Post : Option Value → am_S → Prop} (hR : Rel Bt e t I L m) (hm : m < 1000000) (hv : ∀ k, k < 6 → vp_in (i + nI k) e.2.1) (hN : ∀ e' t' K M, e'.2.1 = e.2.1 → Rel Bt e' t' K M (m + 1) → am_T am_P 400 mi_L_law 2403 (LV i) [] (am_st e' K M) cb sb Post) : am_T am_P 400 mi_L_law 1811 (LV i) [] (am_st e I L) cb sb Post := by
  refine am_run_rows am_OK am_lr [2403] 80 _ _ _ _ _ _ ?_
  refine And.intro ⟨_, rfl, hv 1 (by decide)⟩ (And.intro ⟨_, rfl, hv 2 (by decide)⟩ (Exists.intro 0 (Exists.intro 0 (And.intro (Nat.zero_le _) (And.intro (Nat.zero_le _) ?_)))))
  refine am_cIo (am_C_d (q_gone (Q := fun r r' K => PQ e m r r' K L) hR.2.1 hR.2.2.1 hR.1 hR.2.2.2.2.1 (fun r J f => ⟨rfl, t, Rel_q hR f (frL_r L) (Nat.le_succ _)⟩)) (by decide)) (fun r J h ho => ?_)
  refine And.intro ⟨_, rfl, hv 1 (by decide)⟩ (And.intro ⟨_, rfl, hv 2 (by decide)⟩ (Exists.intro 0 (Exists.intro 0 (And.intro (Nat.zero_le _) (And.intro (Nat.zero_le _) ?_)))))
  show am_C am_P 399 mi_X11_gone [.ref 73, .int (J am_old (i + nI 1).toNatClampNeg), .int (J am_old (i + nI 2).toNatClampNeg)] (am_st e J L) 0 0 _
  rw [ho]
  exact am_cI (am_C_d h (by decide)) (fun r' K h2 => And.intro (fun _ => And.intro (am_T_lv (hN e h2.2.choose K L rfl h2.2.choose_spec) ⟨rfl, rfl, rfl, rfl, trivial⟩) trivial) (fun q => absurd h2.1 q))
set_option maxRecDepth 100000 in
theorem lc_52 {e : am_V} {I : Nat → Nat → Int32} {L : Nat → Nat → Int64} {t : tw} {m cb sb : Nat} {i : Int32} {Post : Option Value → am_S → Prop} (hR : Rel Bt e t I L m) (hm : m < 1000000) (hv : ∀ k, k < 6 → vp_in (i + nI k) e.2.1) (hN : ∀ e' t' K M, e'.2.1 = e.2.1 → Rel Bt e' t' K M (m + 1) → am_T am_P 400 mi_L_law 2403 (LV i) [] (am_st e' K M) cb sb Post) : am_T am_P 400 mi_L_law 1844 (LV i) [] (am_st e I L) cb sb Post := by
  refine am_run_rows am_OK am_lr [2403] 80 _ _ _ _ _ _ ?_
  refine And.intro ⟨_, rfl, hv 1 (by decide)⟩ (Exists.intro 0 (Exists.intro 0 (And.intro (Nat.zero_le _) (And.intro (Nat.zero_le _) ?_))))
  refine am_cIo (am_C_d (q_march (Q := fun r r' K => PQ e m r r' K L) hR.2.1 hR.2.2.1 hR.1 hR.2.2.2.2.1 (fun r J f => ⟨rfl, t, Rel_q hR f (frL_r L) (Nat.le_succ _)⟩)) (by decide)) (fun r J h ho => ?_)
  refine And.intro ⟨_, rfl, hv 1 (by decide)⟩ (Exists.intro 0 (Exists.intro 0 (And.intro (Nat.zero_le _) (And.intro (Nat.zero_le _) ?_))))
  show am_C am_P 399 mi_X11_march [.ref 73, .int (J am_old (i + nI 1).toNatClampNeg)] (am_st e J L) 0 0 _
  rw [ho]
  exact am_cI (am_C_d h (by decide)) (fun r' K h2 => And.intro (fun _ => And.intro (am_T_lv (hN e h2.2.choose K L rfl h2.2.choose_spec) ⟨rfl, rfl, rfl, rfl, trivial⟩) trivial) (fun q => absurd h2.1 q))
set_option maxRecDepth 100000 in
theorem lc_53 {e : am_V} {I : Nat → Nat → Int32} {L : Nat → Nat → Int64} {t : tw} {m cb sb : Nat} {i : Int32} {Post : Option Value → am_S → Prop} (hR : Rel Bt e t I L m) (hm : m < 1000000) (hv : ∀ k, k < 6 → vp_in (i + nI k) e.2.1) (hN : ∀ e' t' K M, e'.2.1 = e.2.1 → Rel Bt e' t' K M (m + 1) → am_T am_P 400 mi_L_law 2403 (LV i) [] (am_st e' K M) cb sb Post) : am_T am_P 400 mi_L_law 1867 (LV i) [] (am_st e I L) cb sb Post := by
  refine am_run_rows am_OK am_lr [2403] 80 _ _ _ _ _ _ ?_
  refine And.intro ⟨_, rfl, hv 1 (by decide)⟩ (Exists.intro 0 (Exists.intro 0 (And.intro (Nat.zero_le _) (And.intro (Nat.zero_le _) ?_))))
  refine am_cIo (am_C_d (q_length (Q := fun r r' K => PQ e m r r' K L) hR.2.1 hR.2.2.1 hR.1 hR.2.2.2.2.1 (fun r J f => ⟨rfl, t, Rel_q hR f (frL_r L) (Nat.le_succ _)⟩)) (by decide)) (fun r J h ho => ?_)
  refine And.intro ⟨_, rfl, hv 1 (by decide)⟩ (Exists.intro 0 (Exists.intro 0 (And.intro (Nat.zero_le _) (And.intro (Nat.zero_le _) ?_))))
  show am_C am_P 399 mi_X11_length [.ref 73, .int (J am_old (i + nI 1).toNatClampNeg)] (am_st e J L) 0 0 _
  rw [ho]
  exact am_cI (am_C_d h (by decide)) (fun r' K h2 => And.intro (fun _ => And.intro (am_T_lv (hN e h2.2.choose K L rfl h2.2.choose_spec) ⟨rfl, rfl, rfl, rfl, trivial⟩) trivial) (fun q => absurd h2.1 q))
set_option maxRecDepth 100000 in
theorem lc_54 {e : am_V} {I : Nat → Nat → Int32} {L : Nat → Nat → Int64} {t : tw} {m cb sb : Nat} {i : Int32} {Post : Option Value → am_S → Prop} (hR : Rel Bt e t I L m) (hm : m < 1000000) (hv : ∀ k, k < 6 → vp_in (i + nI k) e.2.1) (hN : ∀ e' t' K M, e'.2.1 = e.2.1 → Rel Bt e' t' K M (m + 1) → am_T am_P 400 mi_L_law 2403 (LV i) [] (am_st e' K M) cb sb Post) : am_T am_P 400 mi_L_law 1890 (LV i) [] (am_st e I L) cb sb Post := by
  refine am_run_rows am_OK am_lr [2403] 80 _ _ _ _ _ _ ?_
  refine And.intro ⟨_, rfl, hv 1 (by decide)⟩ (And.intro ⟨_, rfl, hv 2 (by decide)⟩ (And.intro ⟨_, rfl, hv 3 (by decide)⟩ (And.intro ⟨_, rfl, hv 4 (by decide)⟩ (Exists.intro 0 (Exists.intro 0 (And.intro (Nat.zero_le _) (And.intro (Nat.zero_le _) ?_)))))))
  refine am_cILo (am_C_d (q_drawn (Q := PQ e m) hR.2.1 hR.2.2.1 hR.1 (fun r J M f g => ⟨rfl, t, Rel_q hR f g (Nat.le_succ _)⟩)) (by decide)) (fun r J M h ho => ?_)
  refine And.intro ⟨_, rfl, hv 1 (by decide)⟩ (And.intro ⟨_, rfl, hv 2 (by decide)⟩ (And.intro ⟨_, rfl, hv 3 (by decide)⟩ (And.intro ⟨_, rfl, hv 4 (by decide)⟩ (Exists.intro 0 (Exists.intro 0 (And.intro (Nat.zero_le _) (And.intro (Nat.zero_le _) ?_)))))))
  show am_C am_P 399 mi_X11_drawn [.ref 73, .int (J am_old (i + nI 1).toNatClampNeg), .int (J am_old (i + nI 2).toNatClampNeg), .int (J am_old (i + nI 3).toNatClampNeg), .int (J am_old (i + nI 4).toNatClampNeg)] (am_st e J M) 0 0 _
  rw [ho]
  exact am_cI (am_C_d h (by decide)) (fun r' K h2 => And.intro (fun _ => And.intro (am_T_lv (hN e h2.2.choose K M rfl h2.2.choose_spec) ⟨rfl, rfl, rfl, rfl, trivial⟩) trivial) (fun q => absurd h2.1 q))
set_option maxRecDepth 100000 in
theorem lc_55 {e : am_V} {I : Nat → Nat → Int32} {L : Nat → Nat → Int64} {t : tw} {m cb sb : Nat} {i : Int32} {Post : Option Value → am_S → Prop} (hR : Rel Bt e t I L m) (hm : m < 1000000) (hv : ∀ k, k < 6 → vp_in (i + nI k) e.2.1) (hN : ∀ e' t' K M, e'.2.1 = e.2.1 → Rel Bt e' t' K M (m + 1) → am_T am_P 400 mi_L_law 2403 (LV i) [] (am_st e' K M) cb sb Post) : am_T am_P 400 mi_L_law 1943 (LV i) [] (am_st e I L) cb sb Post := by
  refine am_run_rows am_OK am_lr [2403] 80 _ _ _ _ _ _ ?_
  refine And.intro ⟨_, rfl, hv 1 (by decide)⟩ (And.intro ⟨_, rfl, hv 2 (by decide)⟩ (And.intro ⟨_, rfl, hv 3 (by decide)⟩ (And.intro ⟨_, rfl, hv 4 (by decide)⟩ (And.intro ⟨_, rfl, hv 5 (by decide)⟩ (Exists.intro 0 (Exists.intro 0 (And.intro (Nat.zero_le _) (And.intro (Nat.zero_le _) ?_))))))))
  refine am_cILo (am_C_d (q_strays (Q := PQ e m) hR.2.1 hR.2.2.1 hR.1 (fun r J M f g => ⟨rfl, t, Rel_q hR f g (Nat.le_succ _)⟩)) (by decide)) (fun r J M h ho => ?_)
  refine And.intro ⟨_, rfl, hv 1 (by decide)⟩ (And.intro ⟨_, rfl, hv 2 (by decide)⟩ (And.intro ⟨_, rfl, hv 3 (by decide)⟩ (And.intro ⟨_, rfl, hv 4 (by decide)⟩ (And.intro ⟨_, rfl, hv 5 (by decide)⟩ (Exists.intro 0 (Exists.intro 0 (And.intro (Nat.zero_le _) (And.intro (Nat.zero_le _) ?_))))))))
  show am_C am_P 399 mi_X11_strays [.ref 73, .int (J am_old (i + nI 1).toNatClampNeg), .int (J am_old (i + nI 2).toNatClampNeg), .int (J am_old (i + nI 3).toNatClampNeg), .int (J am_old (i + nI 4).toNatClampNeg), .int (J am_old (i + nI 5).toNatClampNeg)] (am_st e J M) 0 0 _
  rw [ho]
  exact am_cI (am_C_d h (by decide)) (fun r' K h2 => And.intro (fun _ => And.intro (am_T_lv (hN e h2.2.choose K M rfl h2.2.choose_spec) ⟨rfl, rfl, rfl, rfl, trivial⟩) trivial) (fun q => absurd h2.1 q))
set_option maxRecDepth 100000 in
theorem lc_56 {e : am_V} {I : Nat → Nat → Int32} {L : Nat → Nat → Int64} {t : tw} {m cb sb : Nat} {i : Int32} {Post : Option Value → am_S → Prop} (hR : Rel Bt e t I L m) (hm : m < 1000000) (hv : ∀ k, k < 6 → vp_in (i + nI k) e.2.1) (hN : ∀ e' t' K M, e'.2.1 = e.2.1 → Rel Bt e' t' K M (m + 1) → am_T am_P 400 mi_L_law 2403 (LV i) [] (am_st e' K M) cb sb Post) : am_T am_P 400 mi_L_law 2006 (LV i) [] (am_st e I L) cb sb Post := by
  refine am_run_rows am_OK am_lr [2403] 80 _ _ _ _ _ _ ?_
  refine And.intro ⟨_, rfl, hv 1 (by decide)⟩ (And.intro ⟨_, rfl, hv 2 (by decide)⟩ (And.intro ⟨_, rfl, hv 3 (by decide)⟩ (Exists.intro 0 (Exists.intro 0 (And.intro (Nat.zero_le _) (And.intro (Nat.zero_le _) ?_))))))
  refine am_cIo (am_C_d (r_build (Q := fun r r' K => PQ e m r r' K L) hR hm (fun r J t' h => ⟨rfl, t', h⟩)) (by decide)) (fun r J h ho => ?_)
  refine And.intro ⟨_, rfl, hv 1 (by decide)⟩ (And.intro ⟨_, rfl, hv 2 (by decide)⟩ (And.intro ⟨_, rfl, hv 3 (by decide)⟩ (Exists.intro 0 (Exists.intro 0 (And.intro (Nat.zero_le _) (And.intro (Nat.zero_le _) ?_))))))
  show am_C am_P 399 mi_X11_build [.ref 73, .int (J am_old (i + nI 1).toNatClampNeg), .int (J am_old (i + nI 2).toNatClampNeg), .int (J am_old (i + nI 3).toNatClampNeg)] (am_st e J L) 0 0 _
  rw [ho]
  exact am_cI (am_C_d h (by decide)) (fun r' K h2 => And.intro (fun _ => And.intro (am_T_lv (hN e h2.2.choose K L rfl h2.2.choose_spec) ⟨rfl, rfl, rfl, rfl, trivial⟩) trivial) (fun q => absurd h2.1 q))
set_option maxRecDepth 100000 in
theorem lc_57 {e : am_V} {I : Nat → Nat → Int32} {L : Nat → Nat → Int64} {t : tw} {m cb sb : Nat} {i : Int32} {Post : Option Value → am_S → Prop} (hR : Rel Bt e t I L m) (hm : m < 1000000) (hv : ∀ k, k < 6 → vp_in (i + nI k) e.2.1) (hN : ∀ e' t' K M, e'.2.1 = e.2.1 → Rel Bt e' t' K M (m + 1) → am_T am_P 400 mi_L_law 2403 (LV i) [] (am_st e' K M) cb sb Post) : am_T am_P 400 mi_L_law 2049 (LV i) [] (am_st e I L) cb sb Post := by
  refine am_run_rows am_OK am_lr [2403] 80 _ _ _ _ _ _ ?_
  refine And.intro ⟨_, rfl, hv 1 (by decide)⟩ (And.intro ⟨_, rfl, hv 2 (by decide)⟩ (And.intro ⟨_, rfl, hv 3 (by decide)⟩ (And.intro ⟨_, rfl, hv 4 (by decide)⟩ (Exists.intro 0 (Exists.intro 0 (And.intro (Nat.zero_le _) (And.intro (Nat.zero_le _) ?_)))))))
  refine am_cIo (am_C_d (r_law (Q := fun r r' K => PQ e m r r' K L) hR hm (fun r J t' h => ⟨rfl, t', h⟩)) (by decide)) (fun r J h ho => ?_)
  refine And.intro ⟨_, rfl, hv 1 (by decide)⟩ (And.intro ⟨_, rfl, hv 2 (by decide)⟩ (And.intro ⟨_, rfl, hv 3 (by decide)⟩ (And.intro ⟨_, rfl, hv 4 (by decide)⟩ (Exists.intro 0 (Exists.intro 0 (And.intro (Nat.zero_le _) (And.intro (Nat.zero_le _) ?_)))))))
  show am_C am_P 399 mi_X11_law [.ref 73, .int (J am_old (i + nI 1).toNatClampNeg), .int (J am_old (i + nI 2).toNatClampNeg), .int (J am_old (i + nI 3).toNatClampNeg), .int (J am_old (i + nI 4).toNatClampNeg)] (am_st e J L) 0 0 _
  rw [ho]
  exact am_cI (am_C_d h (by decide)) (fun r' K h2 => And.intro (fun _ => And.intro (am_T_lv (hN e h2.2.choose K L rfl h2.2.choose_spec) ⟨rfl, rfl, rfl, rfl, trivial⟩) trivial) (fun q => absurd h2.1 q))
set_option maxRecDepth 100000 in
theorem lc_58 {e : am_V} {I : Nat → Nat → Int32} {L : Nat → Nat → Int64} {t : tw} {m cb sb : Nat} {i : Int32} {Post : Option Value → am_S → Prop} (hR : Rel Bt e t I L m) (hm : m < 1000000) (hv : ∀ k, k < 6 → vp_in (i + nI k) e.2.1) (hN : ∀ e' t' K M, e'.2.1 = e.2.1 → Rel Bt e' t' K M (m + 1) → am_T am_P 400 mi_L_law 2403 (LV i) [] (am_st e' K M) cb sb Post) : am_T am_P 400 mi_L_law 2102 (LV i) [] (am_st e I L) cb sb Post := by
  refine am_run_rows am_OK am_lr [2403] 80 _ _ _ _ _ _ ?_
  refine And.intro ⟨_, rfl, hv 1 (by decide)⟩ (And.intro ⟨_, rfl, hv 2 (by decide)⟩ (And.intro ⟨_, rfl, hv 3 (by decide)⟩ (And.intro ⟨_, rfl, hv 4 (by decide)⟩ (Exists.intro 0 (Exists.intro 0 (And.intro (Nat.zero_le _) (And.intro (Nat.zero_le _) ?_)))))))
  refine am_cIo (am_C_d (r_send (Q := fun r r' K => PQ e m r r' K L) hR hm (fun r J t' h => ⟨rfl, t', h⟩)) (by decide)) (fun r J h ho => ?_)
  refine And.intro ⟨_, rfl, hv 1 (by decide)⟩ (And.intro ⟨_, rfl, hv 2 (by decide)⟩ (And.intro ⟨_, rfl, hv 3 (by decide)⟩ (And.intro ⟨_, rfl, hv 4 (by decide)⟩ (Exists.intro 0 (Exists.intro 0 (And.intro (Nat.zero_le _) (And.intro (Nat.zero_le _) ?_)))))))
  show am_C am_P 399 mi_X11_send [.ref 73, .int (J am_old (i + nI 1).toNatClampNeg), .int (J am_old (i + nI 2).toNatClampNeg), .int (J am_old (i + nI 3).toNatClampNeg), .int (J am_old (i + nI 4).toNatClampNeg)] (am_st e J L) 0 0 _
  rw [ho]
  exact am_cI (am_C_d h (by decide)) (fun r' K h2 => And.intro (fun _ => And.intro (am_T_lv (hN e h2.2.choose K L rfl h2.2.choose_spec) ⟨rfl, rfl, rfl, rfl, trivial⟩) trivial) (fun q => absurd h2.1 q))
set_option maxRecDepth 100000 in
theorem lc_59 {e : am_V} {I : Nat → Nat → Int32} {L : Nat → Nat → Int64} {t : tw} {m cb sb : Nat} {i : Int32} {Post : Option Value → am_S → Prop} (hR : Rel Bt e t I L m) (hm : m < 1000000) (hv : ∀ k, k < 6 → vp_in (i + nI k) e.2.1) (hN : ∀ e' t' K M, e'.2.1 = e.2.1 → Rel Bt e' t' K M (m + 1) → am_T am_P 400 mi_L_law 2403 (LV i) [] (am_st e' K M) cb sb Post) : am_T am_P 400 mi_L_law 2155 (LV i) [] (am_st e I L) cb sb Post := by
  refine am_run_rows am_OK am_lr [2403] 80 _ _ _ _ _ _ ?_
  refine And.intro ⟨_, rfl, hv 1 (by decide)⟩ (Exists.intro 0 (Exists.intro 0 (And.intro (Nat.zero_le _) (And.intro (Nat.zero_le _) ?_))))
  refine am_cIo (am_C_d (r_count (Q := fun r r' K => PQ e m r r' K L) hR (fun r J h => ⟨rfl, t, Rel_s1 h⟩)) (by decide)) (fun r J h ho => ?_)
  refine And.intro ⟨_, rfl, hv 1 (by decide)⟩ (Exists.intro 0 (Exists.intro 0 (And.intro (Nat.zero_le _) (And.intro (Nat.zero_le _) ?_))))
  show am_C am_P 399 mi_X11_count [.ref 73, .int (J am_old (i + nI 1).toNatClampNeg)] (am_st e J L) 0 0 _
  rw [ho]
  exact am_cI (am_C_d h (by decide)) (fun r' K h2 => And.intro (fun _ => And.intro (am_T_lv (hN e h2.2.choose K L rfl h2.2.choose_spec) ⟨rfl, rfl, rfl, rfl, trivial⟩) trivial) (fun q => absurd h2.1 q))
set_option maxRecDepth 100000 in
theorem lc_60 {e : am_V} {I : Nat → Nat → Int32} {L : Nat → Nat → Int64} {t : tw} {m cb sb : Nat} {i : Int32} {Post : Option Value → am_S → Prop} (hR : Rel Bt e t I L m) (hm : m < 1000000) (hv : ∀ k, k < 6 → vp_in (i + nI k) e.2.1) (h12 : 12 ≤ cb) (h18 : 1834 ≤ sb) (hN : ∀ e' t' K M, e'.2.1 = e.2.1 → Rel Bt e' t' K M (m + 1) → am_T am_P 400 mi_L_law 2403 (LV i) [] (am_st e' K M) (cb - 12) (sb - 1834) Post) : am_T am_P 400 mi_L_law 2178 (LV i) [] (am_st e I L) cb sb Post := by
  refine am_run_rows am_OK am_lr [2403] 60 _ _ _ _ _ _ ?_
  refine And.intro ⟨_, rfl, hv 1 (by decide)⟩ (Exists.intro 12 (Exists.intro 1834 (And.intro h12 (And.intro h18 ?_))))
  refine am_C_m (am_C_d (am_C_oldR (r_keep (Q := fun r r' e' K M => e'.2.1 = e.2.1 ∧ r = r' ∧ ∃ t, Rel Bt e' t K M (m + 1)) hR (fun r e' J M h1 _ _ h2 => ⟨h1, rfl, t, h2⟩))) (by decide)) ?_
  rintro v σ ⟨⟨r, e', J, M, rfl, rfl, h⟩, ho, hoR⟩
  have ho2 : J am_old = I am_old := ho
  have hsl : e'.2.1 = e.2.1 := Option.some.inj hoR
  refine And.intro ⟨_, rfl, hsl ▸ hv 1 (by decide)⟩ (Exists.intro 0 (Exists.intro 0 (And.intro (Nat.zero_le _) (And.intro (Nat.zero_le _) ?_))))
  show am_C am_P 399 mi_X11_keep [.ref 73, .int (J am_old (i + nI 1).toNatClampNeg)] (am_st e' J M) 0 0 _
  rw [ho2]
  exact am_cI (am_C_d h (by decide)) (fun r' K h2 => And.intro (fun _ => And.intro (am_T_lv (hN e' h2.2.2.choose K M h2.1 h2.2.2.choose_spec) ⟨rfl, rfl, rfl, rfl, trivial⟩) trivial) (fun q => absurd h2.2.1 q))
set_option maxRecDepth 100000 in
theorem lc_61 {e : am_V} {I : Nat → Nat → Int32} {L : Nat → Nat → Int64} {t : tw} {m cb sb : Nat} {i : Int32} {Post : Option Value → am_S → Prop} (hR : Rel Bt e t I L m) (hm : m < 1000000) (hv : ∀ k, k < 6 → vp_in (i + nI k) e.2.1) (hN : ∀ e' t' K M, e'.2.1 = e.2.1 → Rel Bt e' t' K M (m + 1) → am_T am_P 400 mi_L_law 2403 (LV i) [] (am_st e' K M) cb sb Post) : am_T am_P 400 mi_L_law 2201 (LV i) [] (am_st e I L) cb sb Post := by
  refine am_run_rows am_OK am_lr [2403] 80 _ _ _ _ _ _ ?_
  refine And.intro ⟨_, rfl, hv 1 (by decide)⟩ (Exists.intro 0 (Exists.intro 0 (And.intro (Nat.zero_le _) (And.intro (Nat.zero_le _) ?_))))
  refine am_cIo (am_C_d (r_back (Q := fun r r' K => PQ e m r r' K L) hR hm (fun r J t' h => ⟨rfl, t', h⟩)) (by decide)) (fun r J h ho => ?_)
  refine And.intro ⟨_, rfl, hv 1 (by decide)⟩ (Exists.intro 0 (Exists.intro 0 (And.intro (Nat.zero_le _) (And.intro (Nat.zero_le _) ?_))))
  show am_C am_P 399 mi_X11_back [.ref 73, .int (J am_old (i + nI 1).toNatClampNeg)] (am_st e J L) 0 0 _
  rw [ho]
  exact am_cI (am_C_d h (by decide)) (fun r' K h2 => And.intro (fun _ => And.intro (am_T_lv (hN e h2.2.choose K L rfl h2.2.choose_spec) ⟨rfl, rfl, rfl, rfl, trivial⟩) trivial) (fun q => absurd h2.1 q))
set_option maxRecDepth 100000 in
theorem lc_62 {e : am_V} {I : Nat → Nat → Int32} {L : Nat → Nat → Int64} {t : tw} {m cb sb : Nat} {i : Int32} {Post : Option Value → am_S → Prop} (hR : Rel Bt e t I L m) (hm : m < 1000000) (hv : ∀ k, k < 6 → vp_in (i + nI k) e.2.1) (hN : ∀ e' t' K M, e'.2.1 = e.2.1 → Rel Bt e' t' K M (m + 1) → am_T am_P 400 mi_L_law 2403 (LV i) [] (am_st e' K M) cb sb Post) : am_T am_P 400 mi_L_law 2224 (LV i) [] (am_st e I L) cb sb Post := by
  refine am_run_rows am_OK am_lr [2403] 80 _ _ _ _ _ _ ?_
  refine And.intro ⟨_, rfl, hv 1 (by decide)⟩ (And.intro ⟨_, rfl, hv 2 (by decide)⟩ (And.intro ⟨_, rfl, hv 3 (by decide)⟩ (Exists.intro 0 (Exists.intro 0 (And.intro (Nat.zero_le _) (And.intro (Nat.zero_le _) ?_))))))
  refine am_cILo (am_C_d (r_row (Q := PQ e m) hR (fun r J M h => ⟨rfl, t, Rel_s1 h⟩)) (by decide)) (fun r J M h ho => ?_)
  refine And.intro ⟨_, rfl, hv 1 (by decide)⟩ (And.intro ⟨_, rfl, hv 2 (by decide)⟩ (And.intro ⟨_, rfl, hv 3 (by decide)⟩ (Exists.intro 0 (Exists.intro 0 (And.intro (Nat.zero_le _) (And.intro (Nat.zero_le _) ?_))))))
  show am_C am_P 399 mi_X11_row [.ref 73, .int (J am_old (i + nI 1).toNatClampNeg), .int (J am_old (i + nI 2).toNatClampNeg), .int (J am_old (i + nI 3).toNatClampNeg)] (am_st e J M) 0 0 _
  rw [ho]
  exact am_cIL (am_C_d h (by decide)) (fun r' K N h2 => And.intro (fun _ => And.intro (am_T_lv (hN e h2.2.choose K N rfl h2.2.choose_spec) ⟨rfl, rfl, rfl, rfl, trivial⟩) trivial) (fun q => absurd h2.1 q))
set_option maxRecDepth 100000 in
theorem lc_63 {e : am_V} {I : Nat → Nat → Int32} {L : Nat → Nat → Int64} {t : tw} {m cb sb : Nat} {i : Int32} {Post : Option Value → am_S → Prop} (hR : Rel Bt e t I L m) (hm : m < 1000000) (hv : ∀ k, k < 6 → vp_in (i + nI k) e.2.1) (hN : ∀ e' t' K M, e'.2.1 = e.2.1 → Rel Bt e' t' K M (m + 1) → am_T am_P 400 mi_L_law 2403 (LV i) [] (am_st e' K M) cb sb Post) : am_T am_P 400 mi_L_law 2267 (LV i) [] (am_st e I L) cb sb Post := by
  refine am_run_rows am_OK am_lr [2403] 80 _ _ _ _ _ _ ?_
  refine And.intro ⟨_, rfl, hv 1 (by decide)⟩ (And.intro ⟨_, rfl, hv 2 (by decide)⟩ (And.intro ⟨_, rfl, hv 3 (by decide)⟩ (And.intro ⟨_, rfl, hv 4 (by decide)⟩ (Exists.intro 0 (Exists.intro 0 (And.intro (Nat.zero_le _) (And.intro (Nat.zero_le _) ?_)))))))
  refine am_cILo (am_C_d (r_write (Q := PQ e m) hR (fun r J M h => ⟨rfl, t, Rel_s1 h⟩)) (by decide)) (fun r J M h ho => ?_)
  refine And.intro ⟨_, rfl, hv 1 (by decide)⟩ (And.intro ⟨_, rfl, hv 2 (by decide)⟩ (And.intro ⟨_, rfl, hv 3 (by decide)⟩ (And.intro ⟨_, rfl, hv 4 (by decide)⟩ (Exists.intro 0 (Exists.intro 0 (And.intro (Nat.zero_le _) (And.intro (Nat.zero_le _) ?_)))))))
  show am_C am_P 399 mi_X11_write [.ref 73, .int (J am_old (i + nI 1).toNatClampNeg), .int (J am_old (i + nI 2).toNatClampNeg), .long ((((J am_old (i + nI 3).toNatClampNeg).toInt64 <<< ((nI 32).toInt64 &&& 63)) ||| ((J am_old (i + nI 4).toNatClampNeg).toInt64 &&& Int64.ofNat 4294967295)))] (am_st e J M) 0 0 _
  rw [ho]
  exact am_cIL (am_C_d h (by decide)) (fun r' K N h2 => And.intro (fun _ => And.intro (am_T_lv (hN e h2.2.choose K N rfl h2.2.choose_spec) ⟨rfl, rfl, rfl, rfl, trivial⟩) trivial) (fun q => absurd h2.1 q))
set_option maxRecDepth 100000 in
theorem lc_64 {e : am_V} {I : Nat → Nat → Int32} {L : Nat → Nat → Int64} {t : tw} {m cb sb : Nat} {i : Int32} {Post : Option Value → am_S → Prop} (hR : Rel Bt e t I L m) (hm : m < 1000000) (hv : ∀ k, k < 6 → vp_in (i + nI k) e.2.1) (hN : ∀ e' t' K M, e'.2.1 = e.2.1 → Rel Bt e' t' K M (m + 1) → am_T am_P 400 mi_L_law 2403 (LV i) [] (am_st e' K M) cb sb Post) : am_T am_P 400 mi_L_law 2340 (LV i) [] (am_st e I L) cb sb Post := by
  refine am_run_rows am_OK am_lr [2403] 80 _ _ _ _ _ _ ?_
  refine And.intro ⟨_, rfl, hv 1 (by decide)⟩ (And.intro ⟨_, rfl, hv 2 (by decide)⟩ (And.intro ⟨_, rfl, hv 3 (by decide)⟩ (And.intro ⟨_, rfl, hv 4 (by decide)⟩ (And.intro ⟨_, rfl, hv 5 (by decide)⟩ (Exists.intro 0 (Exists.intro 0 (And.intro (Nat.zero_le _) (And.intro (Nat.zero_le _) ?_))))))))
  refine am_cILo (am_C_d (r_paste (Q := PQ e m) hR (fun r J M h => ⟨rfl, t, Rel_s1 h⟩)) (by decide)) (fun r J M h ho => ?_)
  refine And.intro ⟨_, rfl, hv 1 (by decide)⟩ (And.intro ⟨_, rfl, hv 2 (by decide)⟩ (And.intro ⟨_, rfl, hv 3 (by decide)⟩ (And.intro ⟨_, rfl, hv 4 (by decide)⟩ (And.intro ⟨_, rfl, hv 5 (by decide)⟩ (Exists.intro 0 (Exists.intro 0 (And.intro (Nat.zero_le _) (And.intro (Nat.zero_le _) ?_))))))))
  show am_C am_P 399 mi_X11_paste [.ref 73, .int (J am_old (i + nI 1).toNatClampNeg), .int (J am_old (i + nI 2).toNatClampNeg), .int (J am_old (i + nI 3).toNatClampNeg), .int (J am_old (i + nI 4).toNatClampNeg), .int (J am_old (i + nI 5).toNatClampNeg)] (am_st e J M) 0 0 _
  rw [ho]
  exact am_cIL (am_C_d h (by decide)) (fun r' K N h2 => And.intro (fun _ => And.intro (am_T_lv (hN e h2.2.choose K N rfl h2.2.choose_spec) ⟨rfl, rfl, rfl, rfl, trivial⟩) trivial) (fun q => absurd h2.1 q))
