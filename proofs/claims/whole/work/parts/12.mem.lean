/-! objects and arrays: the heap that shows a state -/
theorem am_ph_ip (G : am_G) (n : Nat) : am_ph G (am_ip n) = am_gB G + n := by
  unfold am_ph
  rw [am_pm_ip]
theorem am_ph_ne {G : am_G} {a b : Nat} (h : b ≠ a) : am_ph G b ≠ am_ph G a := fun e => h (by
  have e2 : am_pm b = am_pm a := Nat.add_left_cancel e
  rw [← am_ip_pm b, e2, am_ip_pm])
theorem am_Wai {G : am_G} {σ : am_S} {i : Nat} (h : i < am_n σ) : (am_W G σ)[i]? = some (am_gB G + i, am_E G σ (am_ip i)) := by
  unfold am_W
  rw [List.getElem?_map, List.getElem?_range h]
  rfl
theorem am_Wat {G : am_G} {σ : am_S} {a : Nat} (h : am_pm a < am_n σ) : (am_W G σ)[am_pm a]? = some (am_ph G a, am_E G σ a) := by
  rw [am_Wai h, am_ip_pm]
  rfl
theorem am_WL (G : am_G) (σ : am_S) : (am_W G σ).length = am_n σ := by simp [am_W]
theorem am_Wex {w1 w2 : va_W} (h : ∀ k : Nat, w1[k]? = w2[k]?) : w1 = w2 := List.ext_getElem? h
theorem am_Wno {G : am_G} {σ : am_S} {a : Nat} (h : ¬ a < am_n σ) : (am_W G σ)[a]? = none := List.getElem?_eq_none (by rw [am_WL]; omega)
theorem am_Wset {G : am_G} {σ σ' : am_S} {a : Nat} (ha : am_pm a < am_n σ) (hn : am_n σ' = am_n σ) (h : ∀ b, b ≠ a → am_E G σ' b = am_E G σ b) : am_W G σ' = (am_W G σ).set (am_pm a) (am_ph G a, am_E G σ' a) := by
  apply am_Wex
  intro k
  by_cases hk : k < am_n σ
  · by_cases hka : k = am_pm a
    · subst hka
      rw [am_Wat (by omega), List.getElem?_set_self (by rw [am_WL]; exact hk)]
    · rw [am_Wai (by omega), List.getElem?_set_ne (Ne.symm hka), am_Wai hk, h (am_ip k) (fun e => hka (by rw [← e, am_pm_ip]))]
  · rw [am_Wno (by omega), List.getElem?_eq_none (by rw [List.length_set, am_WL]; omega)]
theorem am_Wpush {G : am_G} {σ σ' : am_S} (hn : am_n σ' = am_n σ + 1) (h : ∀ b, b ≠ am_ip (am_n σ) → am_E G σ' b = am_E G σ b) : am_W G σ' = am_W G σ ++ [(am_gB G + am_n σ, am_E G σ' (am_ip (am_n σ)))] := by
  apply am_Wex
  intro k
  by_cases hk : k < am_n σ
  · rw [am_Wai (by omega), List.getElem?_append_left (by rw [am_WL]; exact hk), am_Wai hk, h (am_ip k) (fun e => by
      have e2 := congrArg am_pm e
      rw [am_pm_ip, am_pm_ip] at e2
      omega)]
  · by_cases hk2 : k = am_n σ
    · subst hk2
      rw [am_Wai (by omega), List.getElem?_append_right (by rw [am_WL]; omega), am_WL, Nat.sub_self]
      rfl
    · rw [am_Wno (by omega), List.getElem?_eq_none (by rw [List.length_append, am_WL]; simp; omega)]
theorem am_WD (G : am_G) (σ : am_S) : va_D (am_A G) (am_W G σ) := by
  refine ⟨fun i j p q hi hj hpq => ?_, fun k q hk => ?_⟩
  · have h1 : i < am_n σ := by
      have := (List.getElem?_eq_some_iff.mp hi).1
      rwa [am_WL] at this
    have h2 : j < am_n σ := by
      have := (List.getElem?_eq_some_iff.mp hj).1
      rwa [am_WL] at this
    rw [am_Wai h1] at hi
    rw [am_Wai h2] at hj
    cases hi
    cases hj
    have : am_gB G + i = am_gB G + j := hpq
    omega
  · have h1 : k < am_n σ := by
      have := (List.getElem?_eq_some_iff.mp hk).1
      rwa [am_WL] at this
    rw [am_Wai h1] at hk
    cases hk
    exact Nat.le_add_right _ _
theorem am_kd_n {a c : Nat} (h : am_kd a = c) (hc : c < 90) : a < 133 := by
  rcases Nat.lt_or_ge a 133 with h1 | h1
  · exact h1
  · exfalso
    have : am_kd a = 99 := by
      unfold am_kd
      rw [List.getD_eq_getElem?_getD, List.getElem?_eq_none (show am_sh.length ≤ a from h1)]
      rfl
    omega
theorem am_ad_lo {G : am_G} {a : Nat} (h : a < am_old) : am_ad G a = am_ph G a := if_pos h
theorem am_E_o {G : am_G} {σ : am_S} {a c : Nat} (h : am_kd a = c) (hc : c < 12) : am_E G σ a = .inr (c, (List.range (am_fn c)).map (am_fv G σ c a)) := by
  unfold am_E
  rw [h, if_pos hc]
theorem am_E_i {G : am_G} {σ : am_S} {a : Nat} (h : am_kd a = 12 ∨ am_kd a = 13 ∨ am_kd a = 15) : am_E G σ a = .inl (am_gc G (am_kd a), am_ln a, .inl (am_I σ a)) := by
  unfold am_E
  rw [if_neg (by omega), if_neg (by omega), if_pos (by omega)]
theorem am_E_l {G : am_G} {σ : am_S} {a : Nat} (h : am_kd a = 14) : am_E G σ a = .inl (am_gc G 14, am_ln a, .inr (.inl (am_L σ a))) := by
  unfold am_E
  rw [if_neg (by omega), if_pos h, h]
theorem am_E_q {G : am_G} {σ : am_S} {a : Nat} (h : am_kd a = 16 ∨ am_kd a = 17 ∨ am_kd a = 18) : am_E G σ a = .inl (am_gc G (am_kd a), am_ln a, .inr (.inr (.inr (.inr (fun j => (am_R σ a j).map (am_ph G)))))) := by
  unfold am_E
  rw [if_neg (by omega), if_neg (by omega), if_neg (by omega)]
theorem am_E_fi {G : am_G} {σ : am_S} {a b : Nat} {f : Nat → Int32} (h : b ≠ a) : am_E G (am_sI σ a f) b = am_E G σ b := by
  have : am_I (am_sI σ a f) b = am_I σ b := if_neg h
  unfold am_E
  rw [this]
  congr 3
  · apply List.map_congr_left
    intro k _
    unfold am_fv
    rw [this]
    rfl
theorem am_E_fl {G : am_G} {σ : am_S} {a b : Nat} {f : Nat → Int64} (h : b ≠ a) : am_E G (am_sL σ a f) b = am_E G σ b := by
  have : am_L (am_sL σ a f) b = am_L σ b := if_neg h
  unfold am_E
  rw [this]
  congr 3
  · apply List.map_congr_left
    intro k _
    unfold am_fv
    rw [this]
    rfl
theorem am_E_fr {G : am_G} {σ : am_S} {a b : Nat} {f : Nat → Option Nat} (h : b ≠ a) : am_E G (am_sR σ a f) b = am_E G σ b := by
  have : am_R (am_sR σ a f) b = am_R σ b := if_neg h
  unfold am_E
  rw [this]
  congr 3
  · apply List.map_congr_left
    intro k _
    unfold am_fv
    rw [this]
    rfl
theorem am_E_new {G : am_G} {σ : am_S} {b : Nat} (h : b ≠ am_ip (am_n σ)) : am_E G (am_new σ) b = am_E G σ b := by
  have h1 : am_I (am_new σ) b = am_I σ b := if_neg h
  have h2 : am_L (am_new σ) b = am_L σ b := if_neg h
  have h3 : am_R (am_new σ) b = am_R σ b := if_neg h
  unfold am_E
  rw [h1, h2, h3]
  congr 3
  · apply List.map_congr_left
    intro k _
    unfold am_fv
    rw [h1, h2, h3]
theorem am_rf_o {G : am_G} {r : Option Nat} (h : ∀ a, r = some a → a < am_old) : va_rf (r.map (am_ph G)) = am_v G (am_o r) := by
  cases r with
  | none => rfl
  | some a =>
    show Value.ref (am_ph G a) = Value.ref (am_ad G a)
    rw [am_ad_lo (h a rfl)]
/-- the heap behind a write to one object or array -/
theorem am_Rp_i {G : am_G} {σ : am_S} {a : Nat} {f : Nat → Int32} {H H1 : Heap} (h : am_Rp G σ H) (ha : am_pm a < am_n σ) (hz : H1.size = H.size) (ho : ∀ q : Nat, q ≠ am_ph G a → H1[q]? = H[q]?) (he : va_at (am_gD G) am_cl (am_ph G a, am_E G (am_sI σ a f) a) H1) : am_Rp G (am_sI σ a f) H1 := by
  obtain ⟨h1, h2, h3, h4, h5, h6⟩ := h
  refine ⟨?_, hz.trans h2, h3, h4, ?_, h6⟩
  · rw [am_Wset (σ := σ) (σ' := am_sI σ a f) ha rfl (fun b hb => am_E_fi hb)]
    exact va_P.set h1 (am_WD G σ) (am_Wat ha) he ho
  · rw [← h5]
    exact if_neg (by have h3' : am_n σ < am_old := h3; have := am_pm_gt (N := am_old) (by unfold am_old; omega) (Nat.lt_trans ha h3'); omega)
theorem am_Rp_l {G : am_G} {σ : am_S} {a : Nat} {f : Nat → Int64} {H H1 : Heap} (h : am_Rp G σ H) (ha : am_pm a < am_n σ) (hz : H1.size = H.size) (ho : ∀ q : Nat, q ≠ am_ph G a → H1[q]? = H[q]?) (he : va_at (am_gD G) am_cl (am_ph G a, am_E G (am_sL σ a f) a) H1) : am_Rp G (am_sL σ a f) H1 := by
  obtain ⟨h1, h2, h3, h4, h5, h6⟩ := h
  refine ⟨?_, hz.trans h2, h3, h4, h5, h6⟩
  rw [am_Wset (σ := σ) (σ' := am_sL σ a f) ha rfl (fun b hb => am_E_fl hb)]
  exact va_P.set h1 (am_WD G σ) (am_Wat ha) he ho
theorem am_Rp_r {G : am_G} {σ : am_S} {a k x : Nat} {H H1 : Heap} (h : am_Rp G σ H) (ha : am_pm a < am_n σ) (hx : am_pm x < am_n σ) (hz : H1.size = H.size) (ho : ∀ q : Nat, q ≠ am_ph G a → H1[q]? = H[q]?) (he : va_at (am_gD G) am_cl (am_ph G a, am_E G (am_sR σ a (va_up (am_R σ a) k (some x))) a) H1) : am_Rp G (am_sR σ a (va_up (am_R σ a) k (some x))) H1 := by
  obtain ⟨h1, h2, h3, h4, h5, h6⟩ := h
  have h3' : am_n σ < am_old := h3
  refine ⟨?_, hz.trans h2, h3, fun b j r hb hr => ?_, h5, ?_⟩
  · rw [am_Wset (σ := σ) (σ' := am_sR σ a (va_up (am_R σ a) k (some x))) ha rfl (fun b hb => am_E_fr hb)]
    exact va_P.set h1 (am_WD G σ) (am_Wat ha) he ho
  · by_cases hba : b = a
    · subst hba
      have e : am_R (am_sR σ b (va_up (am_R σ b) k (some x))) b = va_up (am_R σ b) k (some x) := if_pos rfl
      rw [e] at hr
      unfold va_up at hr
      split at hr
      · cases hr
        exact hx
      · exact h4 b j r hb hr
    · have e : am_R (am_sR σ a (va_up (am_R σ a) k (some x))) b = am_R σ b := if_neg hba
      rw [e] at hr
      exact h4 b j r hb hr
  · have e : am_R (am_sR σ a (va_up (am_R σ a) k (some x))) am_old = am_R σ am_old := if_neg (by have := am_pm_gt (N := am_old) (by unfold am_old; omega) (Nat.lt_trans ha h3'); omega)
    rw [e]
    exact h6
theorem am_Rp_n {G : am_G} {σ : am_S} {H H1 : Heap} (h : am_Rp G σ H) (hk : am_kd (am_ip (am_n σ)) < 90) (hz : H1.size = H.size + 1) (ho : ∀ q : Nat, q < H.size → H1[q]? = H[q]?) (he : va_at (am_gD G) am_cl (am_gB G + am_n σ, am_E G (am_new σ) (am_ip (am_n σ))) H1) : am_Rp G (am_new σ) H1 := by
  obtain ⟨h1, h2, h3, h4, h5, h6⟩ := h
  have h3' : am_n σ < am_old := h3
  have hlt : am_n σ < 133 := by
    have := am_pm_lt (N := 133) (by omega) (am_kd_n rfl hk)
    rwa [am_pm_ip] at this
  have hne : am_ip (am_n σ) < am_old := am_ip_lt (by unfold am_old; omega) h3'
  have hn : am_n (am_new σ) = am_n σ + 1 := rfl
  refine ⟨?_, by rw [hz, h2, hn]; omega, by rw [hn]; show am_n σ + 1 < 1000000; omega, fun b j r hb hr => ?_, ?_, ?_⟩
  · rw [am_Wpush (σ := σ) (σ' := am_new σ) rfl (fun b hb => am_E_new hb)]
    refine (h1.kept (fun k x hx => ho x.1 ((h1 k x hx).lt))).app (fun k x hx => ?_)
    have hz : k < 1 := (List.getElem?_eq_some_iff.mp hx).1
    rw [show k = 0 by omega] at hx
    cases hx
    exact he
  · by_cases hba : b = am_ip (am_n σ)
    · subst hba
      have e : am_R (am_new σ) (am_ip (am_n σ)) = fun _ => none := if_pos rfl
      rw [e] at hr
      cases hr
    · have e : am_R (am_new σ) b = am_R σ b := if_neg hba
      rw [e] at hr
      have hb2 : am_pm b ≠ am_n σ := fun e => hba (by rw [← e, am_ip_pm])
      have := h4 b j r (by omega) hr
      omega
  · rw [← h5]
    exact if_neg (by show ¬ am_old = am_ip (am_n σ); omega)
  · have e : am_R (am_new σ) am_old = am_R σ am_old := if_neg (by show ¬ am_old = am_ip (am_n σ); omega)
    rw [e]
    exact h6
theorem am_vk_ip {σ : am_S} : am_vk (am_n (am_new σ)) (.ref (am_ip (am_n σ))) := Or.inl (by
  rw [am_pm_ip]
  exact Nat.lt_succ_self _)
theorem am_v_ip {G : am_G} {n : Nat} (h : n < am_old) : am_v G (.ref (am_ip n)) = .ref (am_gB G + n) := by
  show Value.ref (am_ad G _) = _
  rw [am_ad_lo (am_ip_lt (by unfold am_old; omega) h), am_ph_ip]
theorem am_vk_new {σ : am_S} {v : Value} (h : am_vk (am_n σ) v) : am_vk (am_n (am_new σ)) v := by
  cases v with
  | ref a =>
    exact Or.imp_left (fun q => Nat.lt_succ_of_lt q) h
  | _ => exact h
theorem am_S_new {G : am_G} {H0 H H1 : Heap} {locs : List Loc} (h : va_S (am_A G) H0 H locs) (hz : H1.size = H.size + 1) (ho : ∀ q : Nat, q < H.size → H1[q]? = H[q]?) : va_S (am_A G) H0 H1 locs :=
  ⟨by have := h.1; omega, fun q h1 h2 => (ho q (Nat.lt_of_lt_of_le h1 h.1)).trans (h.2.1 q h1 h2), h.2.2⟩
/-- an array's elements' type, by its kind -/
theorem am_arr {G : am_G} {U : State} (h : am_Kx G U) : ArrOfT U (am_gc G 12) .byte ∧ ArrOfT U (am_gc G 13) .int ∧ ArrOfT U (am_gc G 14) .long ∧ ArrOfT U (am_gc G 15) .boolean ∧ ArrOfT U (am_gc G 16) (.object "SpentTurns$Numbers") ∧ ArrOfT U (am_gc G 17) (.object "SpentTurns$Town") ∧ ArrOfT U (am_gc G 18) (.array .int) :=
  ⟨(h.1.2 0 _ rfl).1, (h.1.2 1 _ rfl).1, (h.1.2 2 _ rfl).1, (h.1.2 3 _ rfl).1, (h.1.2 4 _ rfl).1, (h.1.2 5 _ rfl).1, (h.1.2 6 _ rfl).1⟩
theorem am_in_lt {i : Int32} {n : Nat} (h : vp_in i n) : i.toNatClampNeg < n := Nat.not_le.mp fun q => h (Or.inr q)
theorem am_cell_i {G : am_G} {σ : am_S} {H : Heap} {a : Nat} (h : am_Rp G σ H) (ha : am_pm a < am_n σ) (hk : am_kd a = 12 ∨ am_kd a = 13 ∨ am_kd a = 15) : H[am_ph G a]? = some (arrV (am_gc G (am_kd a)) (am_ln a) (fun j => .int (am_I σ a j))) := by
  have := h.1 _ _ (am_Wat ha)
  rw [am_E_i hk] at this
  exact this
theorem am_cell_l {G : am_G} {σ : am_S} {H : Heap} {a : Nat} (h : am_Rp G σ H) (ha : am_pm a < am_n σ) (hk : am_kd a = 14) : H[am_ph G a]? = some (arrV (am_gc G 14) (am_ln a) (fun j => .long (am_L σ a j))) := by
  have := h.1 _ _ (am_Wat ha)
  rw [am_E_l hk] at this
  exact this
theorem am_cell_q {G : am_G} {σ : am_S} {H : Heap} {a : Nat} (h : am_Rp G σ H) (ha : am_pm a < am_n σ) (hk : am_kd a = 16 ∨ am_kd a = 17 ∨ am_kd a = 18) : H[am_ph G a]? = some (arrV (am_gc G (am_kd a)) (am_ln a) (fun j => va_rf ((am_R σ a j).map (am_ph G)))) := by
  have := h.1 _ _ (am_Wat ha)
  rw [am_E_q hk] at this
  exact this
/-- a reference that is of a known kind lies among the new ones -/
theorem am_lo {n a c : Nat} (h : am_vk n (.ref a)) (hk : am_kd a = c) (hc : c < 90) : am_pm a < n ∧ a < am_old := by
  have h : am_pm a < n ∨ am_old ≤ a := h
  have h2 := am_kd_n hk hc
  have : a < am_old := by show a < 1000000; omega
  rcases h with h | h
  · exact ⟨h, this⟩
  · omega
