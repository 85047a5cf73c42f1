/-! the state behind the constructors; contracts of methods ('C_..'), of loops ('T_..'); 'b_..': what a piece of a method asks, printed by wip/whole/lift.py -/
abbrev am_V : Type := (Option Nat × Option Nat × Option Nat) × Nat × Nat
def am_im (q : Option Nat × Option Nat × Option Nat) (k : Nat) : Option Nat := match k with
  | 0 => q.1
  | 1 => q.2.1
  | 2 => q.2.2
  | _ => none
def am_r1 (im : Nat → Option Nat) (sl : Nat) : Nat → Nat → Option Nat := fun a k => match Nat.beq a 27 with
  | true => im k
  | false => match Nat.beq a am_old with
    | true => some sl
    | false => (am_rl.getD a []).getD k none
/-- a state: what changes (ints, longs), and the images, the script's length, how many there are -/
def am_st (e : am_V) (I : Nat → Nat → Int32) (L : Nat → Nat → Int64) : am_S := (I, L, am_r1 (am_im e.1) e.2.1, e.2.2)
def am_pI (e : am_V) (L : Nat → Nat → Int64) (Q : Int32 → (Nat → Nat → Int32) → Prop) : Option Value → am_S → Prop := fun v σ => ∃ r I, v = some (.int r) ∧ σ = am_st e I L ∧ Q r I
def am_pIL (e : am_V) (Q : Int32 → (Nat → Nat → Int32) → (Nat → Nat → Int64) → Prop) : Option Value → am_S → Prop := fun v σ => ∃ r I L, v = some (.int r) ∧ σ = am_st e I L ∧ Q r I L
def am_pV (e : am_V) (L : Nat → Nat → Int64) (Q : (Nat → Nat → Int32) → Prop) : Option Value → am_S → Prop := fun v σ => ∃ I, v = none ∧ σ = am_st e I L ∧ Q I
def am_pVL (e : am_V) (Q : (Nat → Nat → Int32) → (Nat → Nat → Int64) → Prop) : Option Value → am_S → Prop := fun v σ => ∃ I L, v = none ∧ σ = am_st e I L ∧ Q I L
def am_sub : am_LV → am_LV → Prop
  | [], _ => True
  | q :: t, lv => am_get lv q.1 = some q.2 ∧ am_sub t lv
theorem am_sub_e {lv : am_LV} : ∀ {t : am_LV}, am_sub t lv → ∀ q ∈ t, q ∈ lv
  | [], _, q, hq => by cases hq
  | p :: t, h, q, hq => by
    rcases List.mem_cons.mp hq with rfl | hq
    · exact am_get_e h.1
    · exact am_sub_e h.2 q hq
/-- fewer locals, in any order -/
theorem am_T_lv {P : Nat → am_MI} {d mi pc cb sb : Nat} {lv t : am_LV} {st : List Value} {σ : am_S} {Post : Option Value → am_S → Prop} (h : am_T P d mi pc t st σ cb sb Post) (hs : am_sub t lv) : am_T P d mi pc lv st σ cb sb Post := by
  intro G p l e R s mm args below meth c H locs cells slots Q ls C h1 h2 h3 h4 h5 h6 h7 h8 h9 hr
  refine h G p l e R s mm args below meth c H locs cells slots Q ls C h1 h2 h3 h4 h5 h6 (fun q hq => h7 q (am_sub_e hs q hq)) h8 ⟨h9.1, h9.2.1, fun q hq => ?_⟩ hr
  obtain ⟨w, hw, rfl⟩ := List.mem_map.mp hq
  exact h9.2.2 _ (List.mem_map_of_mem (am_sub_e hs w hw))
theorem lm_in {n N : Nat} (h : n < N ∧ N < 2 ^ 31) : vp_in (nI n) N := vp_in_nI h.1 h.2
theorem lm_lt {x y : Int64} : lg_cmp x y < 0 ↔ x < y := lg_cmp_lt x y
theorem lm_gt {x y : Int64} : 0 < lg_cmp x y ↔ y < x := lg_cmp_gt x y
theorem lm_eq {x y : Int64} : lg_cmp x y = 0 ↔ x = y := lg_cmp_eq x y
theorem lm_nle64 {x y : Int64} : ¬ x < y ↔ y ≤ x := by
  rw [Int64.lt_iff_toInt_lt, Int64.le_iff_toInt_le]
  omega
theorem lm_ge {x y : Int64} : 0 ≤ lg_cmp x y ↔ ¬ x < y := (lg_cmp_ge x y).trans lm_nle64.symm
theorem lm_nge {x y : Int64} : ¬ 0 ≤ lg_cmp x y ↔ x < y := by
  rw [lm_ge]
  exact Classical.not_not
theorem lm_le {x y : Int64} : lg_cmp x y ≤ 0 ↔ ¬ y < x := (lg_cmp_le x y).trans lm_nle64.symm
theorem lm_nle {x y : Int64} : ¬ lg_cmp x y ≤ 0 ↔ y < x := by
  rw [lm_le]
  exact Classical.not_not
theorem lm_rb {M : am_MI} {x : Int32} (hM : am_mr M = some .boolean) (h : x = (0 : Int32) ∨ x = (1 : Int32)) : ∃ ty, am_mr M = some ty ∧ narrow ty (.int x) = .int x := by
  refine ⟨_, hM, ?_⟩
  rcases h with rfl | rfl <;> rfl
section AMX
variable {P : Nat → am_MI} {d mi cb sb : Nat} {as : List Value} {σ : am_S} {Post : Option Value → am_S → Prop} {e : am_V} {L : Nat → Nat → Int64}
theorem am_cI {Q : Int32 → (Nat → Nat → Int32) → Prop} (h : am_C P d mi as σ cb sb (am_pI e L Q)) (m : ∀ r I, Q r I → Post (some (.int r)) (am_st e I L)) : am_C P d mi as σ cb sb Post := am_C_m h (by
  rintro v σ ⟨r, I, rfl, rfl, h⟩
  exact m r I h)
theorem am_cIL {Q : Int32 → (Nat → Nat → Int32) → (Nat → Nat → Int64) → Prop} (h : am_C P d mi as σ cb sb (am_pIL e Q)) (m : ∀ r I L, Q r I L → Post (some (.int r)) (am_st e I L)) : am_C P d mi as σ cb sb Post := am_C_m h (by
  rintro v σ ⟨r, I, L, rfl, rfl, h⟩
  exact m r I L h)
theorem am_cV {Q : (Nat → Nat → Int32) → Prop} (h : am_C P d mi as σ cb sb (am_pV e L Q)) (m : ∀ I, Q I → Post none (am_st e I L)) : am_C P d mi as σ cb sb Post := am_C_m h (by
  rintro v σ ⟨I, rfl, rfl, h⟩
  exact m I h)
theorem am_cVL {Q : (Nat → Nat → Int32) → (Nat → Nat → Int64) → Prop} (h : am_C P d mi as σ cb sb (am_pVL e Q)) (m : ∀ I L, Q I L → Post none (am_st e I L)) : am_C P d mi as σ cb sb Post := am_C_m h (by
  rintro v σ ⟨I, L, rfl, rfl, h⟩
  exact m I L h)
end AMX
