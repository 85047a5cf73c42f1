/-! orders tried: the class -/
def SO : List Nat := [38, 39, 40, 51, 52, 54, 55, 56, 57, 58, 59, 60, 61]
def BC (t : tw) (b : Option (Nat × Nat × List Nat)) (I : Nat → Nat → Int32) : Prop := match b with
  | none => I 51 4 = (-1 : Int32) ∧ I 51 5 = nI 0
  | some b => b.1 ≤ 6 ∧ b.2.1 ≤ 100000 ∧ I 51 4 = nI b.1 ∧ I 51 5 = nI b.2.1 ∧ ∀ i, i < t 0 4 → I 61 i = nI (b.2.2.getD i 0)
theorem BC_c {t : tw} {b : Option (Nat × Nat × List Nat)} {I J : Nat → Nat → Int32} (h : BC t b I) (h51 : J 51 = I 51) (h61 : J 61 = I 61) : BC t b J := by
  unfold BC at h ⊢
  rw [h51, h61]
  exact h
def OI (t : tw) (l : List Nat) (b : Option (Nat × Nat × List Nat)) (I : Nat → Nat → Int32) : Prop := CT t I ∧ (∀ k, k < 512 → tB t k = true → I 52 k = nI ((dyL t (-1) l).1 k)) ∧ (∀ i, i < l.length → I 60 i = nI (l.getD i 0)) ∧ BC t b I
/-- what trying on from an order's beginning does -/
def trF (e : am_V) (L : Nat → Nat → Int64) (t : tw) (k : Nat) (l : List Nat) : Prop := ∀ (b : Option (Nat × Nat × List Nat)) (d : Nat) (I : Nat → Nat → Int32) (Q : (Nat → Nat → Int32) → Prop), OI t l b I → 2 * k + 1 ≤ d → (∀ J, OI t l (dsr t k l b) J → fr SO [] I J → (∀ i, i < l.length → J (54 + i) = I (54 + i)) → Q J) → C_X3_tryFrom_51_3_38 e d (nI (msk l)) (nI (dyL t (-1) l).2.1) (nI (dyL t (-1) l).2.2.1) I L Q
theorem te_54 {e : am_V} {L : Nat → Nat → Int64} {t : tw} {k d j : Nat} {l : List Nat} {b : Option (Nat × Nat × List Nat)} {I : Nat → Nat → Int32} {Q : (Nat → Nat → Int32) → Prop} (hk : tok t) (hj : j < t 0 4) (hlev : l.length = 0) (hC : CT t I) (h52 : ∀ k, k < 512 → tB t k = true → I 52 k = nI ((dyL t (-1) l).1 k)) (h60 : ∀ i, i < (l ++ [j]).length → I 60 i = nI ((l ++ [j]).getD i 0)) (hB : BC t b I) (hd : 2 * k + 1 ≤ d) (ih : trF e L t k (l ++ [j])) (hQ : ∀ J, OI t l (dsr t k (l ++ [j]) b) J → fr SO [] I J → (∀ i, i < l.length → J (54 + i) = I (54 + i)) → Q J) : C_X9_find_38_3_52 e (nI (t 4 j)) (nI (t 5 j)) (nI 0) I L (fun r4 I5 => ((r4 = (nI 0) → C_X3_tryFrom_51_3_38 e d (nI (msk (l ++ [j]))) (nI (dyL t (-1) l).2.1) (nI (dyL t (-1) l).2.2.1) I5 L (fun I8 => Q I8)) ∧ (¬ r4 = (nI 0) → C_X10_addToTurns_54_52 e (I5 38 2) (-1 : Int32) (va_up I5 54 (va_cpy (I5 40) (I5 54) 0 0 40)) L (fun I11 => C_X3_tryFrom_51_3_38 e d (nI (msk (l ++ [j]))) (nI (dyL t (-1) l).2.1 + (nI 1)) (nI (dyL t (-1) l).2.2.1 + (((I5 38 3) / (nI 1000)) - ((I5 38 3) / (nI 1000)) / (nI 1000) * (nI 1000))) I11 L (fun I14 => C_X10_addToTurns_54_52 e (I5 38 2) (nI 1) I14 L (fun I17 => Q I17)))))) := by
  have hk2 := hk
  obtain ⟨o0, oT, oZ, oY, oD, o9, oN, o28, oB, oX, oE, oF, oA, oH, oU, oV⟩ := hk
  obtain ⟨a1, a2, a3, a4⟩ := oF j hj
  obtain ⟨b1, b2⟩ := dyL_b hk2 (-1) l
  have hda := dyL_a t (-1) l j
  have hbut : ¬ nI j = (-1 : Int32) := by
    have := km1 (n := j) (by omega)
    rw [this]
    exact id
  have hla : (l ++ [j]).length = l.length + 1 := by rw [List.length_append]; rfl
  unfold trF at ih
  unfold OI at ih
  generalize dyL t (-1) (l ++ [j]) = s' at *
  unfold OI at hQ
  generalize hs : dyL t (-1) l = s at *
  have hS := tok_sf hk2 s.1 0
  have hb : ∀ k, k < 512 → s.1 k ≤ 1000 := fun k h => by have := b1 k h; omega
  refine c_find_52 (nw := s.1) (m := 0) hC hk2 h52 hb (by decide) (by omega) (by omega) (fun K hf fK k1 k2 k3 => ?_) (fun K hf fK => ?_)
  · rw [tcm_0] at hf k1 k2 k3
    refine ⟨fun h => absurd h (by decide), fun _ => ?_⟩
    have hd2 : s' = (spd (fun v => v - 1) s.1 (wR (t 1) (tcf s.1 0) (t 5 j) (t 4 j)) (wL (t 1) (tcf s.1 0) (t 5 j) (t 4 j) - 2), s.2.1 + 1, s.2.2.1 + wC (t 1) (tcf s.1 0) (t 5 j) (t 4 j) % 1000000 / 100, s.2.2.2.1, va_up s.2.2.2.2 j (nI (wC (t 1) (tcf s.1 0) (t 5 j) (t 4 j) % 1000000 / 100))) := by
      rw [hda]
      unfold dyF
      rw [if_neg hbut, if_pos hf]
    rw [k2, wlen_c hS (by omega) hf, k1, nI_add, nI_add]
    have e1 : s'.1 = spd (fun v => v - 1) s.1 (wR (t 1) (tcf s.1 0) (t 5 j) (t 4 j)) (wL (t 1) (tcf s.1 0) (t 5 j) (t 4 j) - 2) := by rw [hd2]
    have e2 : s'.2.1 = s.2.1 + 1 := by rw [hd2]
    have e3 : s'.2.2.1 = s.2.2.1 + wC (t 1) (tcf s.1 0) (t 5 j) (t 4 j) % 1000000 / 100 := by rw [hd2]
    rw [← e2, ← e3]
    obtain ⟨l1, l2⟩ := wL_b hS (show t 4 j < 8 from by omega) hf
    obtain ⟨wk, wp⟩ := wR_ok hS (show t 4 j < 8 from by omega) hf
    generalize wR (t 1) (tcf s.1 0) (t 5 j) (t 4 j) = R at *
    generalize wL (t 1) (tcf s.1 0) (t 5 j) (t 4 j) = len at *
    have hpos : ∀ i, i < len - 2 → 0 < s.1 (wT R i) := fun i' hi' => tcf_pos (wp i' hi')
    have hW : ∀ i, i < len → va_cpy (K 40) (K 54) 0 0 40 i = nI (R i) := by
      intro i hi
      rw [cpy0 (by omega)]
      exact k3 i hi
    generalize va_cpy (K 40) (K 54) 0 0 40 = W at *
    have fK2 : fr SO [] I (va_up K 54 W) := fr_up (fr_mono fK rfl rfl) rfl
    have hrun := c_addm_54 (e := e) (I := va_up K 54 W) (L := L) (t := t) (nw := s.1) (R := R) (len := len) (m := len - 2) (F := K 52) (Q := fun I11 => C_X3_tryFrom_51_3_38 e d (nI (msk (l ++ [j]))) (nI s'.2.1) (nI s'.2.2.1) I11 L (fun I14 => C_X10_addToTurns_54_52 e (nI len) (nI 1) I14 L (fun I17 => Q I17))) (fun i hi => hW i hi) (by omega) rfl wk hb hpos (fun k hk5 hp => by rw [fK.1 52 (by decide) (by decide)]; exact h52 k hk5 hp) (fun F' hF' => ?_)
    · have hid : va_up (va_up K 54 W) 52 (K 52) = va_up K 54 W := up_id (va_up K 54 W) 52
      rw [hid] at hrun
      exact hrun
    · have fF : fr SO [] I (va_up (va_up K 54 W) 52 F') := fr_up fK2 rfl
      refine ih b d _ _ ⟨fr_CT fF hC rfl, fun k hk5 hp => ?_, fun i hi => ?_, BC_c hB ?_ ?_⟩ hd (fun J j1 j2 j3 => ?_)
      · show F' k = _
        rw [e1]
        exact hF' k hk5 hp
      · show K 60 i = _
        rw [fK.1 60 (by decide) (by decide)]
        exact h60 i hi
      · exact fK.1 51 (by decide) (by decide)
      · exact fK.1 61 (by decide) (by decide)
      · obtain ⟨j4, j5, j6, j7⟩ := j1
        have fJ := fr_trans fF j2
        have hWJ : ∀ i, i < len → J 54 i = nI (R i) := by
          intro i hi
          have h9 := j3 0 (by omega)
          show J (54 + 0) i = _
          rw [h9]
          exact hW i hi
        rw [e1] at j5
        have hrun := c_addp_54 (e := e) (I := J) (L := L) (t := t) (nw := spd (fun v => v - 1) s.1 R (len - 2)) (R := R) (len := len) (m := len - 2) (F := J 52) (Q := fun I17 => Q I17) hWJ (by omega) rfl wk (spd_b hb (fun v h => by omega)) j5 (fun F2 hF2 => ?_)
        · rw [up_id] at hrun
          exact hrun
        · refine hQ _ ⟨fr_CT (fr_up fJ rfl) hC rfl, fun k hk5 hp => ?_, fun i hi => ?_, BC_c j7 rfl rfl⟩ (fr_up fJ rfl) (fun i hi => ?_)
          · show F2 k = _
            rw [hF2 k hk5 hp, spd_pm wk hpos]
          · show J 60 i = _
            rw [j6 i (by omega), gd_l hi]
          · rw [up_n (by omega), j3 i (by omega), up_n (by omega), up_n (by omega)]
            exact fK.1 _ (fun hm => by simp only [List.mem_cons, List.mem_nil_iff, or_false] at hm; omega) (by omega)
  · rw [tcm_0] at hf
    refine ⟨fun _ => ?_, fun h => absurd rfl h⟩
    have hd2 : s' = (s.1, s.2.1, s.2.2.1, if s.2.2.2.1 = (-1 : Int32) then nI j else s.2.2.2.1, va_up s.2.2.2.2 j (-1 : Int32)) := by
      rw [hda]
      unfold dyF
      rw [if_neg hbut, if_neg hf]
    have e1 : s'.1 = s.1 := by rw [hd2]
    have e2 : s'.2.1 = s.2.1 := by rw [hd2]
    have e3 : s'.2.2.1 = s.2.2.1 := by rw [hd2]
    rw [← e2, ← e3]
    have fF : fr SO [] I K := fr_mono fK rfl rfl
    refine ih b d _ _ ⟨fr_CT fF hC rfl, fun k hk5 hp => ?_, fun i hi => ?_, BC_c hB ?_ ?_⟩ hd (fun J j1 j2 j3 => ?_)
    · rw [fK.1 52 (by decide) (by decide), e1]
      exact h52 k hk5 hp
    · rw [fK.1 60 (by decide) (by decide)]
      exact h60 i hi
    · exact fK.1 51 (by decide) (by decide)
    · exact fK.1 61 (by decide) (by decide)
    · obtain ⟨j4, j5, j6, j7⟩ := j1
      refine hQ _ ⟨j4, fun k hk5 hp => ?_, fun i hi => ?_, j7⟩ (fr_trans fF j2) (fun i hi => ?_)
      · rw [j5 k hk5 hp, e1]
      · rw [j6 i (by omega), gd_l hi]
      · rw [j3 i (by omega)]
        exact fK.1 _ (fun hm => by simp only [List.mem_cons, List.mem_nil_iff, or_false] at hm; omega) (by omega)
theorem te_55 {e : am_V} {L : Nat → Nat → Int64} {t : tw} {k d j : Nat} {l : List Nat} {b : Option (Nat × Nat × List Nat)} {I : Nat → Nat → Int32} {Q : (Nat → Nat → Int32) → Prop} (hk : tok t) (hj : j < t 0 4) (hlev : l.length = 1) (hC : CT t I) (h52 : ∀ k, k < 512 → tB t k = true → I 52 k = nI ((dyL t (-1) l).1 k)) (h60 : ∀ i, i < (l ++ [j]).length → I 60 i = nI ((l ++ [j]).getD i 0)) (hB : BC t b I) (hd : 2 * k + 1 ≤ d) (ih : trF e L t k (l ++ [j])) (hQ : ∀ J, OI t l (dsr t k (l ++ [j]) b) J → fr SO [] I J → (∀ i, i < l.length → J (54 + i) = I (54 + i)) → Q J) : C_X9_find_38_3_52 e (nI (t 4 j)) (nI (t 5 j)) (nI 0) I L (fun r4 I5 => ((r4 = (nI 0) → C_X3_tryFrom_51_3_38 e d (nI (msk (l ++ [j]))) (nI (dyL t (-1) l).2.1) (nI (dyL t (-1) l).2.2.1) I5 L (fun I8 => Q I8)) ∧ (¬ r4 = (nI 0) → C_X10_addToTurns_55_52 e (I5 38 2) (-1 : Int32) (va_up I5 55 (va_cpy (I5 40) (I5 55) 0 0 40)) L (fun I11 => C_X3_tryFrom_51_3_38 e d (nI (msk (l ++ [j]))) (nI (dyL t (-1) l).2.1 + (nI 1)) (nI (dyL t (-1) l).2.2.1 + (((I5 38 3) / (nI 1000)) - ((I5 38 3) / (nI 1000)) / (nI 1000) * (nI 1000))) I11 L (fun I14 => C_X10_addToTurns_55_52 e (I5 38 2) (nI 1) I14 L (fun I17 => Q I17)))))) := by
  have hk2 := hk
  obtain ⟨o0, oT, oZ, oY, oD, o9, oN, o28, oB, oX, oE, oF, oA, oH, oU, oV⟩ := hk
  obtain ⟨a1, a2, a3, a4⟩ := oF j hj
  obtain ⟨b1, b2⟩ := dyL_b hk2 (-1) l
  have hda := dyL_a t (-1) l j
  have hbut : ¬ nI j = (-1 : Int32) := by
    have := km1 (n := j) (by omega)
    rw [this]
    exact id
  have hla : (l ++ [j]).length = l.length + 1 := by rw [List.length_append]; rfl
  unfold trF at ih
  unfold OI at ih
  generalize dyL t (-1) (l ++ [j]) = s' at *
  unfold OI at hQ
  generalize hs : dyL t (-1) l = s at *
  have hS := tok_sf hk2 s.1 0
  have hb : ∀ k, k < 512 → s.1 k ≤ 1000 := fun k h => by have := b1 k h; omega
  refine c_find_52 (nw := s.1) (m := 0) hC hk2 h52 hb (by decide) (by omega) (by omega) (fun K hf fK k1 k2 k3 => ?_) (fun K hf fK => ?_)
  · rw [tcm_0] at hf k1 k2 k3
    refine ⟨fun h => absurd h (by decide), fun _ => ?_⟩
    have hd2 : s' = (spd (fun v => v - 1) s.1 (wR (t 1) (tcf s.1 0) (t 5 j) (t 4 j)) (wL (t 1) (tcf s.1 0) (t 5 j) (t 4 j) - 2), s.2.1 + 1, s.2.2.1 + wC (t 1) (tcf s.1 0) (t 5 j) (t 4 j) % 1000000 / 100, s.2.2.2.1, va_up s.2.2.2.2 j (nI (wC (t 1) (tcf s.1 0) (t 5 j) (t 4 j) % 1000000 / 100))) := by
      rw [hda]
      unfold dyF
      rw [if_neg hbut, if_pos hf]
    rw [k2, wlen_c hS (by omega) hf, k1, nI_add, nI_add]
    have e1 : s'.1 = spd (fun v => v - 1) s.1 (wR (t 1) (tcf s.1 0) (t 5 j) (t 4 j)) (wL (t 1) (tcf s.1 0) (t 5 j) (t 4 j) - 2) := by rw [hd2]
    have e2 : s'.2.1 = s.2.1 + 1 := by rw [hd2]
    have e3 : s'.2.2.1 = s.2.2.1 + wC (t 1) (tcf s.1 0) (t 5 j) (t 4 j) % 1000000 / 100 := by rw [hd2]
    rw [← e2, ← e3]
    obtain ⟨l1, l2⟩ := wL_b hS (show t 4 j < 8 from by omega) hf
    obtain ⟨wk, wp⟩ := wR_ok hS (show t 4 j < 8 from by omega) hf
    generalize wR (t 1) (tcf s.1 0) (t 5 j) (t 4 j) = R at *
    generalize wL (t 1) (tcf s.1 0) (t 5 j) (t 4 j) = len at *
    have hpos : ∀ i, i < len - 2 → 0 < s.1 (wT R i) := fun i' hi' => tcf_pos (wp i' hi')
    have hW : ∀ i, i < len → va_cpy (K 40) (K 55) 0 0 40 i = nI (R i) := by
      intro i hi
      rw [cpy0 (by omega)]
      exact k3 i hi
    generalize va_cpy (K 40) (K 55) 0 0 40 = W at *
    have fK2 : fr SO [] I (va_up K 55 W) := fr_up (fr_mono fK rfl rfl) rfl
    have hrun := c_addm_55 (e := e) (I := va_up K 55 W) (L := L) (t := t) (nw := s.1) (R := R) (len := len) (m := len - 2) (F := K 52) (Q := fun I11 => C_X3_tryFrom_51_3_38 e d (nI (msk (l ++ [j]))) (nI s'.2.1) (nI s'.2.2.1) I11 L (fun I14 => C_X10_addToTurns_55_52 e (nI len) (nI 1) I14 L (fun I17 => Q I17))) (fun i hi => hW i hi) (by omega) rfl wk hb hpos (fun k hk5 hp => by rw [fK.1 52 (by decide) (by decide)]; exact h52 k hk5 hp) (fun F' hF' => ?_)
    · have hid : va_up (va_up K 55 W) 52 (K 52) = va_up K 55 W := up_id (va_up K 55 W) 52
      rw [hid] at hrun
      exact hrun
    · have fF : fr SO [] I (va_up (va_up K 55 W) 52 F') := fr_up fK2 rfl
      refine ih b d _ _ ⟨fr_CT fF hC rfl, fun k hk5 hp => ?_, fun i hi => ?_, BC_c hB ?_ ?_⟩ hd (fun J j1 j2 j3 => ?_)
      · show F' k = _
        rw [e1]
        exact hF' k hk5 hp
      · show K 60 i = _
        rw [fK.1 60 (by decide) (by decide)]
        exact h60 i hi
      · exact fK.1 51 (by decide) (by decide)
      · exact fK.1 61 (by decide) (by decide)
      · obtain ⟨j4, j5, j6, j7⟩ := j1
        have fJ := fr_trans fF j2
        have hWJ : ∀ i, i < len → J 55 i = nI (R i) := by
          intro i hi
          have h9 := j3 1 (by omega)
          show J (54 + 1) i = _
          rw [h9]
          exact hW i hi
        rw [e1] at j5
        have hrun := c_addp_55 (e := e) (I := J) (L := L) (t := t) (nw := spd (fun v => v - 1) s.1 R (len - 2)) (R := R) (len := len) (m := len - 2) (F := J 52) (Q := fun I17 => Q I17) hWJ (by omega) rfl wk (spd_b hb (fun v h => by omega)) j5 (fun F2 hF2 => ?_)
        · rw [up_id] at hrun
          exact hrun
        · refine hQ _ ⟨fr_CT (fr_up fJ rfl) hC rfl, fun k hk5 hp => ?_, fun i hi => ?_, BC_c j7 rfl rfl⟩ (fr_up fJ rfl) (fun i hi => ?_)
          · show F2 k = _
            rw [hF2 k hk5 hp, spd_pm wk hpos]
          · show J 60 i = _
            rw [j6 i (by omega), gd_l hi]
          · rw [up_n (by omega), j3 i (by omega), up_n (by omega), up_n (by omega)]
            exact fK.1 _ (fun hm => by simp only [List.mem_cons, List.mem_nil_iff, or_false] at hm; omega) (by omega)
  · rw [tcm_0] at hf
    refine ⟨fun _ => ?_, fun h => absurd rfl h⟩
    have hd2 : s' = (s.1, s.2.1, s.2.2.1, if s.2.2.2.1 = (-1 : Int32) then nI j else s.2.2.2.1, va_up s.2.2.2.2 j (-1 : Int32)) := by
      rw [hda]
      unfold dyF
      rw [if_neg hbut, if_neg hf]
    have e1 : s'.1 = s.1 := by rw [hd2]
    have e2 : s'.2.1 = s.2.1 := by rw [hd2]
    have e3 : s'.2.2.1 = s.2.2.1 := by rw [hd2]
    rw [← e2, ← e3]
    have fF : fr SO [] I K := fr_mono fK rfl rfl
    refine ih b d _ _ ⟨fr_CT fF hC rfl, fun k hk5 hp => ?_, fun i hi => ?_, BC_c hB ?_ ?_⟩ hd (fun J j1 j2 j3 => ?_)
    · rw [fK.1 52 (by decide) (by decide), e1]
      exact h52 k hk5 hp
    · rw [fK.1 60 (by decide) (by decide)]
      exact h60 i hi
    · exact fK.1 51 (by decide) (by decide)
    · exact fK.1 61 (by decide) (by decide)
    · obtain ⟨j4, j5, j6, j7⟩ := j1
      refine hQ _ ⟨j4, fun k hk5 hp => ?_, fun i hi => ?_, j7⟩ (fr_trans fF j2) (fun i hi => ?_)
      · rw [j5 k hk5 hp, e1]
      · rw [j6 i (by omega), gd_l hi]
      · rw [j3 i (by omega)]
        exact fK.1 _ (fun hm => by simp only [List.mem_cons, List.mem_nil_iff, or_false] at hm; omega) (by omega)
theorem te_56 {e : am_V} {L : Nat → Nat → Int64} {t : tw} {k d j : Nat} {l : List Nat} {b : Option (Nat × Nat × List Nat)} {I : Nat → Nat → Int32} {Q : (Nat → Nat → Int32) → Prop} (hk : tok t) (hj : j < t 0 4) (hlev : l.length = 2) (hC : CT t I) (h52 : ∀ k, k < 512 → tB t k = true → I 52 k = nI ((dyL t (-1) l).1 k)) (h60 : ∀ i, i < (l ++ [j]).length → I 60 i = nI ((l ++ [j]).getD i 0)) (hB : BC t b I) (hd : 2 * k + 1 ≤ d) (ih : trF e L t k (l ++ [j])) (hQ : ∀ J, OI t l (dsr t k (l ++ [j]) b) J → fr SO [] I J → (∀ i, i < l.length → J (54 + i) = I (54 + i)) → Q J) : C_X9_find_38_3_52 e (nI (t 4 j)) (nI (t 5 j)) (nI 0) I L (fun r4 I5 => ((r4 = (nI 0) → C_X3_tryFrom_51_3_38 e d (nI (msk (l ++ [j]))) (nI (dyL t (-1) l).2.1) (nI (dyL t (-1) l).2.2.1) I5 L (fun I8 => Q I8)) ∧ (¬ r4 = (nI 0) → C_X10_addToTurns_56_52 e (I5 38 2) (-1 : Int32) (va_up I5 56 (va_cpy (I5 40) (I5 56) 0 0 40)) L (fun I11 => C_X3_tryFrom_51_3_38 e d (nI (msk (l ++ [j]))) (nI (dyL t (-1) l).2.1 + (nI 1)) (nI (dyL t (-1) l).2.2.1 + (((I5 38 3) / (nI 1000)) - ((I5 38 3) / (nI 1000)) / (nI 1000) * (nI 1000))) I11 L (fun I14 => C_X10_addToTurns_56_52 e (I5 38 2) (nI 1) I14 L (fun I17 => Q I17)))))) := by
  have hk2 := hk
  obtain ⟨o0, oT, oZ, oY, oD, o9, oN, o28, oB, oX, oE, oF, oA, oH, oU, oV⟩ := hk
  obtain ⟨a1, a2, a3, a4⟩ := oF j hj
  obtain ⟨b1, b2⟩ := dyL_b hk2 (-1) l
  have hda := dyL_a t (-1) l j
  have hbut : ¬ nI j = (-1 : Int32) := by
    have := km1 (n := j) (by omega)
    rw [this]
    exact id
  have hla : (l ++ [j]).length = l.length + 1 := by rw [List.length_append]; rfl
  unfold trF at ih
  unfold OI at ih
  generalize dyL t (-1) (l ++ [j]) = s' at *
  unfold OI at hQ
  generalize hs : dyL t (-1) l = s at *
  have hS := tok_sf hk2 s.1 0
  have hb : ∀ k, k < 512 → s.1 k ≤ 1000 := fun k h => by have := b1 k h; omega
  refine c_find_52 (nw := s.1) (m := 0) hC hk2 h52 hb (by decide) (by omega) (by omega) (fun K hf fK k1 k2 k3 => ?_) (fun K hf fK => ?_)
  · rw [tcm_0] at hf k1 k2 k3
    refine ⟨fun h => absurd h (by decide), fun _ => ?_⟩
    have hd2 : s' = (spd (fun v => v - 1) s.1 (wR (t 1) (tcf s.1 0) (t 5 j) (t 4 j)) (wL (t 1) (tcf s.1 0) (t 5 j) (t 4 j) - 2), s.2.1 + 1, s.2.2.1 + wC (t 1) (tcf s.1 0) (t 5 j) (t 4 j) % 1000000 / 100, s.2.2.2.1, va_up s.2.2.2.2 j (nI (wC (t 1) (tcf s.1 0) (t 5 j) (t 4 j) % 1000000 / 100))) := by
      rw [hda]
      unfold dyF
      rw [if_neg hbut, if_pos hf]
    rw [k2, wlen_c hS (by omega) hf, k1, nI_add, nI_add]
    have e1 : s'.1 = spd (fun v => v - 1) s.1 (wR (t 1) (tcf s.1 0) (t 5 j) (t 4 j)) (wL (t 1) (tcf s.1 0) (t 5 j) (t 4 j) - 2) := by rw [hd2]
    have e2 : s'.2.1 = s.2.1 + 1 := by rw [hd2]
    have e3 : s'.2.2.1 = s.2.2.1 + wC (t 1) (tcf s.1 0) (t 5 j) (t 4 j) % 1000000 / 100 := by rw [hd2]
    rw [← e2, ← e3]
    obtain ⟨l1, l2⟩ := wL_b hS (show t 4 j < 8 from by omega) hf
    obtain ⟨wk, wp⟩ := wR_ok hS (show t 4 j < 8 from by omega) hf
    generalize wR (t 1) (tcf s.1 0) (t 5 j) (t 4 j) = R at *
    generalize wL (t 1) (tcf s.1 0) (t 5 j) (t 4 j) = len at *
    have hpos : ∀ i, i < len - 2 → 0 < s.1 (wT R i) := fun i' hi' => tcf_pos (wp i' hi')
    have hW : ∀ i, i < len → va_cpy (K 40) (K 56) 0 0 40 i = nI (R i) := by
      intro i hi
      rw [cpy0 (by omega)]
      exact k3 i hi
    generalize va_cpy (K 40) (K 56) 0 0 40 = W at *
    have fK2 : fr SO [] I (va_up K 56 W) := fr_up (fr_mono fK rfl rfl) rfl
    have hrun := c_addm_56 (e := e) (I := va_up K 56 W) (L := L) (t := t) (nw := s.1) (R := R) (len := len) (m := len - 2) (F := K 52) (Q := fun I11 => C_X3_tryFrom_51_3_38 e d (nI (msk (l ++ [j]))) (nI s'.2.1) (nI s'.2.2.1) I11 L (fun I14 => C_X10_addToTurns_56_52 e (nI len) (nI 1) I14 L (fun I17 => Q I17))) (fun i hi => hW i hi) (by omega) rfl wk hb hpos (fun k hk5 hp => by rw [fK.1 52 (by decide) (by decide)]; exact h52 k hk5 hp) (fun F' hF' => ?_)
    · have hid : va_up (va_up K 56 W) 52 (K 52) = va_up K 56 W := up_id (va_up K 56 W) 52
      rw [hid] at hrun
      exact hrun
    · have fF : fr SO [] I (va_up (va_up K 56 W) 52 F') := fr_up fK2 rfl
      refine ih b d _ _ ⟨fr_CT fF hC rfl, fun k hk5 hp => ?_, fun i hi => ?_, BC_c hB ?_ ?_⟩ hd (fun J j1 j2 j3 => ?_)
      · show F' k = _
        rw [e1]
        exact hF' k hk5 hp
      · show K 60 i = _
        rw [fK.1 60 (by decide) (by decide)]
        exact h60 i hi
      · exact fK.1 51 (by decide) (by decide)
      · exact fK.1 61 (by decide) (by decide)
      · obtain ⟨j4, j5, j6, j7⟩ := j1
        have fJ := fr_trans fF j2
        have hWJ : ∀ i, i < len → J 56 i = nI (R i) := by
          intro i hi
          have h9 := j3 2 (by omega)
          show J (54 + 2) i = _
          rw [h9]
          exact hW i hi
        rw [e1] at j5
        have hrun := c_addp_56 (e := e) (I := J) (L := L) (t := t) (nw := spd (fun v => v - 1) s.1 R (len - 2)) (R := R) (len := len) (m := len - 2) (F := J 52) (Q := fun I17 => Q I17) hWJ (by omega) rfl wk (spd_b hb (fun v h => by omega)) j5 (fun F2 hF2 => ?_)
        · rw [up_id] at hrun
          exact hrun
        · refine hQ _ ⟨fr_CT (fr_up fJ rfl) hC rfl, fun k hk5 hp => ?_, fun i hi => ?_, BC_c j7 rfl rfl⟩ (fr_up fJ rfl) (fun i hi => ?_)
          · show F2 k = _
            rw [hF2 k hk5 hp, spd_pm wk hpos]
          · show J 60 i = _
            rw [j6 i (by omega), gd_l hi]
          · rw [up_n (by omega), j3 i (by omega), up_n (by omega), up_n (by omega)]
            exact fK.1 _ (fun hm => by simp only [List.mem_cons, List.mem_nil_iff, or_false] at hm; omega) (by omega)
  · rw [tcm_0] at hf
    refine ⟨fun _ => ?_, fun h => absurd rfl h⟩
    have hd2 : s' = (s.1, s.2.1, s.2.2.1, if s.2.2.2.1 = (-1 : Int32) then nI j else s.2.2.2.1, va_up s.2.2.2.2 j (-1 : Int32)) := by
      rw [hda]
      unfold dyF
      rw [if_neg hbut, if_neg hf]
    have e1 : s'.1 = s.1 := by rw [hd2]
    have e2 : s'.2.1 = s.2.1 := by rw [hd2]
    have e3 : s'.2.2.1 = s.2.2.1 := by rw [hd2]
    rw [← e2, ← e3]
    have fF : fr SO [] I K := fr_mono fK rfl rfl
    refine ih b d _ _ ⟨fr_CT fF hC rfl, fun k hk5 hp => ?_, fun i hi => ?_, BC_c hB ?_ ?_⟩ hd (fun J j1 j2 j3 => ?_)
    · rw [fK.1 52 (by decide) (by decide), e1]
      exact h52 k hk5 hp
    · rw [fK.1 60 (by decide) (by decide)]
      exact h60 i hi
    · exact fK.1 51 (by decide) (by decide)
    · exact fK.1 61 (by decide) (by decide)
    · obtain ⟨j4, j5, j6, j7⟩ := j1
      refine hQ _ ⟨j4, fun k hk5 hp => ?_, fun i hi => ?_, j7⟩ (fr_trans fF j2) (fun i hi => ?_)
      · rw [j5 k hk5 hp, e1]
      · rw [j6 i (by omega), gd_l hi]
      · rw [j3 i (by omega)]
        exact fK.1 _ (fun hm => by simp only [List.mem_cons, List.mem_nil_iff, or_false] at hm; omega) (by omega)
theorem te_57 {e : am_V} {L : Nat → Nat → Int64} {t : tw} {k d j : Nat} {l : List Nat} {b : Option (Nat × Nat × List Nat)} {I : Nat → Nat → Int32} {Q : (Nat → Nat → Int32) → Prop} (hk : tok t) (hj : j < t 0 4) (hlev : l.length = 3) (hC : CT t I) (h52 : ∀ k, k < 512 → tB t k = true → I 52 k = nI ((dyL t (-1) l).1 k)) (h60 : ∀ i, i < (l ++ [j]).length → I 60 i = nI ((l ++ [j]).getD i 0)) (hB : BC t b I) (hd : 2 * k + 1 ≤ d) (ih : trF e L t k (l ++ [j])) (hQ : ∀ J, OI t l (dsr t k (l ++ [j]) b) J → fr SO [] I J → (∀ i, i < l.length → J (54 + i) = I (54 + i)) → Q J) : C_X9_find_38_3_52 e (nI (t 4 j)) (nI (t 5 j)) (nI 0) I L (fun r4 I5 => ((r4 = (nI 0) → C_X3_tryFrom_51_3_38 e d (nI (msk (l ++ [j]))) (nI (dyL t (-1) l).2.1) (nI (dyL t (-1) l).2.2.1) I5 L (fun I8 => Q I8)) ∧ (¬ r4 = (nI 0) → C_X10_addToTurns_57_52 e (I5 38 2) (-1 : Int32) (va_up I5 57 (va_cpy (I5 40) (I5 57) 0 0 40)) L (fun I11 => C_X3_tryFrom_51_3_38 e d (nI (msk (l ++ [j]))) (nI (dyL t (-1) l).2.1 + (nI 1)) (nI (dyL t (-1) l).2.2.1 + (((I5 38 3) / (nI 1000)) - ((I5 38 3) / (nI 1000)) / (nI 1000) * (nI 1000))) I11 L (fun I14 => C_X10_addToTurns_57_52 e (I5 38 2) (nI 1) I14 L (fun I17 => Q I17)))))) := by
  have hk2 := hk
  obtain ⟨o0, oT, oZ, oY, oD, o9, oN, o28, oB, oX, oE, oF, oA, oH, oU, oV⟩ := hk
  obtain ⟨a1, a2, a3, a4⟩ := oF j hj
  obtain ⟨b1, b2⟩ := dyL_b hk2 (-1) l
  have hda := dyL_a t (-1) l j
  have hbut : ¬ nI j = (-1 : Int32) := by
    have := km1 (n := j) (by omega)
    rw [this]
    exact id
  have hla : (l ++ [j]).length = l.length + 1 := by rw [List.length_append]; rfl
  unfold trF at ih
  unfold OI at ih
  generalize dyL t (-1) (l ++ [j]) = s' at *
  unfold OI at hQ
  generalize hs : dyL t (-1) l = s at *
  have hS := tok_sf hk2 s.1 0
  have hb : ∀ k, k < 512 → s.1 k ≤ 1000 := fun k h => by have := b1 k h; omega
  refine c_find_52 (nw := s.1) (m := 0) hC hk2 h52 hb (by decide) (by omega) (by omega) (fun K hf fK k1 k2 k3 => ?_) (fun K hf fK => ?_)
  · rw [tcm_0] at hf k1 k2 k3
    refine ⟨fun h => absurd h (by decide), fun _ => ?_⟩
    have hd2 : s' = (spd (fun v => v - 1) s.1 (wR (t 1) (tcf s.1 0) (t 5 j) (t 4 j)) (wL (t 1) (tcf s.1 0) (t 5 j) (t 4 j) - 2), s.2.1 + 1, s.2.2.1 + wC (t 1) (tcf s.1 0) (t 5 j) (t 4 j) % 1000000 / 100, s.2.2.2.1, va_up s.2.2.2.2 j (nI (wC (t 1) (tcf s.1 0) (t 5 j) (t 4 j) % 1000000 / 100))) := by
      rw [hda]
      unfold dyF
      rw [if_neg hbut, if_pos hf]
    rw [k2, wlen_c hS (by omega) hf, k1, nI_add, nI_add]
    have e1 : s'.1 = spd (fun v => v - 1) s.1 (wR (t 1) (tcf s.1 0) (t 5 j) (t 4 j)) (wL (t 1) (tcf s.1 0) (t 5 j) (t 4 j) - 2) := by rw [hd2]
    have e2 : s'.2.1 = s.2.1 + 1 := by rw [hd2]
    have e3 : s'.2.2.1 = s.2.2.1 + wC (t 1) (tcf s.1 0) (t 5 j) (t 4 j) % 1000000 / 100 := by rw [hd2]
    rw [← e2, ← e3]
    obtain ⟨l1, l2⟩ := wL_b hS (show t 4 j < 8 from by omega) hf
    obtain ⟨wk, wp⟩ := wR_ok hS (show t 4 j < 8 from by omega) hf
    generalize wR (t 1) (tcf s.1 0) (t 5 j) (t 4 j) = R at *
    generalize wL (t 1) (tcf s.1 0) (t 5 j) (t 4 j) = len at *
    have hpos : ∀ i, i < len - 2 → 0 < s.1 (wT R i) := fun i' hi' => tcf_pos (wp i' hi')
    have hW : ∀ i, i < len → va_cpy (K 40) (K 57) 0 0 40 i = nI (R i) := by
      intro i hi
      rw [cpy0 (by omega)]
      exact k3 i hi
    generalize va_cpy (K 40) (K 57) 0 0 40 = W at *
    have fK2 : fr SO [] I (va_up K 57 W) := fr_up (fr_mono fK rfl rfl) rfl
    have hrun := c_addm_57 (e := e) (I := va_up K 57 W) (L := L) (t := t) (nw := s.1) (R := R) (len := len) (m := len - 2) (F := K 52) (Q := fun I11 => C_X3_tryFrom_51_3_38 e d (nI (msk (l ++ [j]))) (nI s'.2.1) (nI s'.2.2.1) I11 L (fun I14 => C_X10_addToTurns_57_52 e (nI len) (nI 1) I14 L (fun I17 => Q I17))) (fun i hi => hW i hi) (by omega) rfl wk hb hpos (fun k hk5 hp => by rw [fK.1 52 (by decide) (by decide)]; exact h52 k hk5 hp) (fun F' hF' => ?_)
    · have hid : va_up (va_up K 57 W) 52 (K 52) = va_up K 57 W := up_id (va_up K 57 W) 52
      rw [hid] at hrun
      exact hrun
    · have fF : fr SO [] I (va_up (va_up K 57 W) 52 F') := fr_up fK2 rfl
      refine ih b d _ _ ⟨fr_CT fF hC rfl, fun k hk5 hp => ?_, fun i hi => ?_, BC_c hB ?_ ?_⟩ hd (fun J j1 j2 j3 => ?_)
      · show F' k = _
        rw [e1]
        exact hF' k hk5 hp
      · show K 60 i = _
        rw [fK.1 60 (by decide) (by decide)]
        exact h60 i hi
      · exact fK.1 51 (by decide) (by decide)
      · exact fK.1 61 (by decide) (by decide)
      · obtain ⟨j4, j5, j6, j7⟩ := j1
        have fJ := fr_trans fF j2
        have hWJ : ∀ i, i < len → J 57 i = nI (R i) := by
          intro i hi
          have h9 := j3 3 (by omega)
          show J (54 + 3) i = _
          rw [h9]
          exact hW i hi
        rw [e1] at j5
        have hrun := c_addp_57 (e := e) (I := J) (L := L) (t := t) (nw := spd (fun v => v - 1) s.1 R (len - 2)) (R := R) (len := len) (m := len - 2) (F := J 52) (Q := fun I17 => Q I17) hWJ (by omega) rfl wk (spd_b hb (fun v h => by omega)) j5 (fun F2 hF2 => ?_)
        · rw [up_id] at hrun
          exact hrun
        · refine hQ _ ⟨fr_CT (fr_up fJ rfl) hC rfl, fun k hk5 hp => ?_, fun i hi => ?_, BC_c j7 rfl rfl⟩ (fr_up fJ rfl) (fun i hi => ?_)
          · show F2 k = _
            rw [hF2 k hk5 hp, spd_pm wk hpos]
          · show J 60 i = _
            rw [j6 i (by omega), gd_l hi]
          · rw [up_n (by omega), j3 i (by omega), up_n (by omega), up_n (by omega)]
            exact fK.1 _ (fun hm => by simp only [List.mem_cons, List.mem_nil_iff, or_false] at hm; omega) (by omega)
  · rw [tcm_0] at hf
    refine ⟨fun _ => ?_, fun h => absurd rfl h⟩
    have hd2 : s' = (s.1, s.2.1, s.2.2.1, if s.2.2.2.1 = (-1 : Int32) then nI j else s.2.2.2.1, va_up s.2.2.2.2 j (-1 : Int32)) := by
      rw [hda]
      unfold dyF
      rw [if_neg hbut, if_neg hf]
    have e1 : s'.1 = s.1 := by rw [hd2]
    have e2 : s'.2.1 = s.2.1 := by rw [hd2]
    have e3 : s'.2.2.1 = s.2.2.1 := by rw [hd2]
    rw [← e2, ← e3]
    have fF : fr SO [] I K := fr_mono fK rfl rfl
    refine ih b d _ _ ⟨fr_CT fF hC rfl, fun k hk5 hp => ?_, fun i hi => ?_, BC_c hB ?_ ?_⟩ hd (fun J j1 j2 j3 => ?_)
    · rw [fK.1 52 (by decide) (by decide), e1]
      exact h52 k hk5 hp
    · rw [fK.1 60 (by decide) (by decide)]
      exact h60 i hi
    · exact fK.1 51 (by decide) (by decide)
    · exact fK.1 61 (by decide) (by decide)
    · obtain ⟨j4, j5, j6, j7⟩ := j1
      refine hQ _ ⟨j4, fun k hk5 hp => ?_, fun i hi => ?_, j7⟩ (fr_trans fF j2) (fun i hi => ?_)
      · rw [j5 k hk5 hp, e1]
      · rw [j6 i (by omega), gd_l hi]
      · rw [j3 i (by omega)]
        exact fK.1 _ (fun hm => by simp only [List.mem_cons, List.mem_nil_iff, or_false] at hm; omega) (by omega)
theorem te_58 {e : am_V} {L : Nat → Nat → Int64} {t : tw} {k d j : Nat} {l : List Nat} {b : Option (Nat × Nat × List Nat)} {I : Nat → Nat → Int32} {Q : (Nat → Nat → Int32) → Prop} (hk : tok t) (hj : j < t 0 4) (hlev : l.length = 4) (hC : CT t I) (h52 : ∀ k, k < 512 → tB t k = true → I 52 k = nI ((dyL t (-1) l).1 k)) (h60 : ∀ i, i < (l ++ [j]).length → I 60 i = nI ((l ++ [j]).getD i 0)) (hB : BC t b I) (hd : 2 * k + 1 ≤ d) (ih : trF e L t k (l ++ [j])) (hQ : ∀ J, OI t l (dsr t k (l ++ [j]) b) J → fr SO [] I J → (∀ i, i < l.length → J (54 + i) = I (54 + i)) → Q J) : C_X9_find_38_3_52 e (nI (t 4 j)) (nI (t 5 j)) (nI 0) I L (fun r4 I5 => ((r4 = (nI 0) → C_X3_tryFrom_51_3_38 e d (nI (msk (l ++ [j]))) (nI (dyL t (-1) l).2.1) (nI (dyL t (-1) l).2.2.1) I5 L (fun I8 => Q I8)) ∧ (¬ r4 = (nI 0) → C_X10_addToTurns_58_52 e (I5 38 2) (-1 : Int32) (va_up I5 58 (va_cpy (I5 40) (I5 58) 0 0 40)) L (fun I11 => C_X3_tryFrom_51_3_38 e d (nI (msk (l ++ [j]))) (nI (dyL t (-1) l).2.1 + (nI 1)) (nI (dyL t (-1) l).2.2.1 + (((I5 38 3) / (nI 1000)) - ((I5 38 3) / (nI 1000)) / (nI 1000) * (nI 1000))) I11 L (fun I14 => C_X10_addToTurns_58_52 e (I5 38 2) (nI 1) I14 L (fun I17 => Q I17)))))) := by
  have hk2 := hk
  obtain ⟨o0, oT, oZ, oY, oD, o9, oN, o28, oB, oX, oE, oF, oA, oH, oU, oV⟩ := hk
  obtain ⟨a1, a2, a3, a4⟩ := oF j hj
  obtain ⟨b1, b2⟩ := dyL_b hk2 (-1) l
  have hda := dyL_a t (-1) l j
  have hbut : ¬ nI j = (-1 : Int32) := by
    have := km1 (n := j) (by omega)
    rw [this]
    exact id
  have hla : (l ++ [j]).length = l.length + 1 := by rw [List.length_append]; rfl
  unfold trF at ih
  unfold OI at ih
  generalize dyL t (-1) (l ++ [j]) = s' at *
  unfold OI at hQ
  generalize hs : dyL t (-1) l = s at *
  have hS := tok_sf hk2 s.1 0
  have hb : ∀ k, k < 512 → s.1 k ≤ 1000 := fun k h => by have := b1 k h; omega
  refine c_find_52 (nw := s.1) (m := 0) hC hk2 h52 hb (by decide) (by omega) (by omega) (fun K hf fK k1 k2 k3 => ?_) (fun K hf fK => ?_)
  · rw [tcm_0] at hf k1 k2 k3
    refine ⟨fun h => absurd h (by decide), fun _ => ?_⟩
    have hd2 : s' = (spd (fun v => v - 1) s.1 (wR (t 1) (tcf s.1 0) (t 5 j) (t 4 j)) (wL (t 1) (tcf s.1 0) (t 5 j) (t 4 j) - 2), s.2.1 + 1, s.2.2.1 + wC (t 1) (tcf s.1 0) (t 5 j) (t 4 j) % 1000000 / 100, s.2.2.2.1, va_up s.2.2.2.2 j (nI (wC (t 1) (tcf s.1 0) (t 5 j) (t 4 j) % 1000000 / 100))) := by
      rw [hda]
      unfold dyF
      rw [if_neg hbut, if_pos hf]
    rw [k2, wlen_c hS (by omega) hf, k1, nI_add, nI_add]
    have e1 : s'.1 = spd (fun v => v - 1) s.1 (wR (t 1) (tcf s.1 0) (t 5 j) (t 4 j)) (wL (t 1) (tcf s.1 0) (t 5 j) (t 4 j) - 2) := by rw [hd2]
    have e2 : s'.2.1 = s.2.1 + 1 := by rw [hd2]
    have e3 : s'.2.2.1 = s.2.2.1 + wC (t 1) (tcf s.1 0) (t 5 j) (t 4 j) % 1000000 / 100 := by rw [hd2]
    rw [← e2, ← e3]
    obtain ⟨l1, l2⟩ := wL_b hS (show t 4 j < 8 from by omega) hf
    obtain ⟨wk, wp⟩ := wR_ok hS (show t 4 j < 8 from by omega) hf
    generalize wR (t 1) (tcf s.1 0) (t 5 j) (t 4 j) = R at *
    generalize wL (t 1) (tcf s.1 0) (t 5 j) (t 4 j) = len at *
    have hpos : ∀ i, i < len - 2 → 0 < s.1 (wT R i) := fun i' hi' => tcf_pos (wp i' hi')
    have hW : ∀ i, i < len → va_cpy (K 40) (K 58) 0 0 40 i = nI (R i) := by
      intro i hi
      rw [cpy0 (by omega)]
      exact k3 i hi
    generalize va_cpy (K 40) (K 58) 0 0 40 = W at *
    have fK2 : fr SO [] I (va_up K 58 W) := fr_up (fr_mono fK rfl rfl) rfl
    have hrun := c_addm_58 (e := e) (I := va_up K 58 W) (L := L) (t := t) (nw := s.1) (R := R) (len := len) (m := len - 2) (F := K 52) (Q := fun I11 => C_X3_tryFrom_51_3_38 e d (nI (msk (l ++ [j]))) (nI s'.2.1) (nI s'.2.2.1) I11 L (fun I14 => C_X10_addToTurns_58_52 e (nI len) (nI 1) I14 L (fun I17 => Q I17))) (fun i hi => hW i hi) (by omega) rfl wk hb hpos (fun k hk5 hp => by rw [fK.1 52 (by decide) (by decide)]; exact h52 k hk5 hp) (fun F' hF' => ?_)
    · have hid : va_up (va_up K 58 W) 52 (K 52) = va_up K 58 W := up_id (va_up K 58 W) 52
      rw [hid] at hrun
      exact hrun
    · have fF : fr SO [] I (va_up (va_up K 58 W) 52 F') := fr_up fK2 rfl
      refine ih b d _ _ ⟨fr_CT fF hC rfl, fun k hk5 hp => ?_, fun i hi => ?_, BC_c hB ?_ ?_⟩ hd (fun J j1 j2 j3 => ?_)
      · show F' k = _
        rw [e1]
        exact hF' k hk5 hp
      · show K 60 i = _
        rw [fK.1 60 (by decide) (by decide)]
        exact h60 i hi
      · exact fK.1 51 (by decide) (by decide)
      · exact fK.1 61 (by decide) (by decide)
      · obtain ⟨j4, j5, j6, j7⟩ := j1
        have fJ := fr_trans fF j2
        have hWJ : ∀ i, i < len → J 58 i = nI (R i) := by
          intro i hi
          have h9 := j3 4 (by omega)
          show J (54 + 4) i = _
          rw [h9]
          exact hW i hi
        rw [e1] at j5
        have hrun := c_addp_58 (e := e) (I := J) (L := L) (t := t) (nw := spd (fun v => v - 1) s.1 R (len - 2)) (R := R) (len := len) (m := len - 2) (F := J 52) (Q := fun I17 => Q I17) hWJ (by omega) rfl wk (spd_b hb (fun v h => by omega)) j5 (fun F2 hF2 => ?_)
        · rw [up_id] at hrun
          exact hrun
        · refine hQ _ ⟨fr_CT (fr_up fJ rfl) hC rfl, fun k hk5 hp => ?_, fun i hi => ?_, BC_c j7 rfl rfl⟩ (fr_up fJ rfl) (fun i hi => ?_)
          · show F2 k = _
            rw [hF2 k hk5 hp, spd_pm wk hpos]
          · show J 60 i = _
            rw [j6 i (by omega), gd_l hi]
          · rw [up_n (by omega), j3 i (by omega), up_n (by omega), up_n (by omega)]
            exact fK.1 _ (fun hm => by simp only [List.mem_cons, List.mem_nil_iff, or_false] at hm; omega) (by omega)
  · rw [tcm_0] at hf
    refine ⟨fun _ => ?_, fun h => absurd rfl h⟩
    have hd2 : s' = (s.1, s.2.1, s.2.2.1, if s.2.2.2.1 = (-1 : Int32) then nI j else s.2.2.2.1, va_up s.2.2.2.2 j (-1 : Int32)) := by
      rw [hda]
      unfold dyF
      rw [if_neg hbut, if_neg hf]
    have e1 : s'.1 = s.1 := by rw [hd2]
    have e2 : s'.2.1 = s.2.1 := by rw [hd2]
    have e3 : s'.2.2.1 = s.2.2.1 := by rw [hd2]
    rw [← e2, ← e3]
    have fF : fr SO [] I K := fr_mono fK rfl rfl
    refine ih b d _ _ ⟨fr_CT fF hC rfl, fun k hk5 hp => ?_, fun i hi => ?_, BC_c hB ?_ ?_⟩ hd (fun J j1 j2 j3 => ?_)
    · rw [fK.1 52 (by decide) (by decide), e1]
      exact h52 k hk5 hp
    · rw [fK.1 60 (by decide) (by decide)]
      exact h60 i hi
    · exact fK.1 51 (by decide) (by decide)
    · exact fK.1 61 (by decide) (by decide)
    · obtain ⟨j4, j5, j6, j7⟩ := j1
      refine hQ _ ⟨j4, fun k hk5 hp => ?_, fun i hi => ?_, j7⟩ (fr_trans fF j2) (fun i hi => ?_)
      · rw [j5 k hk5 hp, e1]
      · rw [j6 i (by omega), gd_l hi]
      · rw [j3 i (by omega)]
        exact fK.1 _ (fun hm => by simp only [List.mem_cons, List.mem_nil_iff, or_false] at hm; omega) (by omega)
theorem te_59 {e : am_V} {L : Nat → Nat → Int64} {t : tw} {k d j : Nat} {l : List Nat} {b : Option (Nat × Nat × List Nat)} {I : Nat → Nat → Int32} {Q : (Nat → Nat → Int32) → Prop} (hk : tok t) (hj : j < t 0 4) (hlev : l.length = 5) (hC : CT t I) (h52 : ∀ k, k < 512 → tB t k = true → I 52 k = nI ((dyL t (-1) l).1 k)) (h60 : ∀ i, i < (l ++ [j]).length → I 60 i = nI ((l ++ [j]).getD i 0)) (hB : BC t b I) (hd : 2 * k + 1 ≤ d) (ih : trF e L t k (l ++ [j])) (hQ : ∀ J, OI t l (dsr t k (l ++ [j]) b) J → fr SO [] I J → (∀ i, i < l.length → J (54 + i) = I (54 + i)) → Q J) : C_X9_find_38_3_52 e (nI (t 4 j)) (nI (t 5 j)) (nI 0) I L (fun r4 I5 => ((r4 = (nI 0) → C_X3_tryFrom_51_3_38 e d (nI (msk (l ++ [j]))) (nI (dyL t (-1) l).2.1) (nI (dyL t (-1) l).2.2.1) I5 L (fun I8 => Q I8)) ∧ (¬ r4 = (nI 0) → C_X10_addToTurns_59_52 e (I5 38 2) (-1 : Int32) (va_up I5 59 (va_cpy (I5 40) (I5 59) 0 0 40)) L (fun I11 => C_X3_tryFrom_51_3_38 e d (nI (msk (l ++ [j]))) (nI (dyL t (-1) l).2.1 + (nI 1)) (nI (dyL t (-1) l).2.2.1 + (((I5 38 3) / (nI 1000)) - ((I5 38 3) / (nI 1000)) / (nI 1000) * (nI 1000))) I11 L (fun I14 => C_X10_addToTurns_59_52 e (I5 38 2) (nI 1) I14 L (fun I17 => Q I17)))))) := by
  have hk2 := hk
  obtain ⟨o0, oT, oZ, oY, oD, o9, oN, o28, oB, oX, oE, oF, oA, oH, oU, oV⟩ := hk
  obtain ⟨a1, a2, a3, a4⟩ := oF j hj
  obtain ⟨b1, b2⟩ := dyL_b hk2 (-1) l
  have hda := dyL_a t (-1) l j
  have hbut : ¬ nI j = (-1 : Int32) := by
    have := km1 (n := j) (by omega)
    rw [this]
    exact id
  have hla : (l ++ [j]).length = l.length + 1 := by rw [List.length_append]; rfl
  unfold trF at ih
  unfold OI at ih
  generalize dyL t (-1) (l ++ [j]) = s' at *
  unfold OI at hQ
  generalize hs : dyL t (-1) l = s at *
  have hS := tok_sf hk2 s.1 0
  have hb : ∀ k, k < 512 → s.1 k ≤ 1000 := fun k h => by have := b1 k h; omega
  refine c_find_52 (nw := s.1) (m := 0) hC hk2 h52 hb (by decide) (by omega) (by omega) (fun K hf fK k1 k2 k3 => ?_) (fun K hf fK => ?_)
  · rw [tcm_0] at hf k1 k2 k3
    refine ⟨fun h => absurd h (by decide), fun _ => ?_⟩
    have hd2 : s' = (spd (fun v => v - 1) s.1 (wR (t 1) (tcf s.1 0) (t 5 j) (t 4 j)) (wL (t 1) (tcf s.1 0) (t 5 j) (t 4 j) - 2), s.2.1 + 1, s.2.2.1 + wC (t 1) (tcf s.1 0) (t 5 j) (t 4 j) % 1000000 / 100, s.2.2.2.1, va_up s.2.2.2.2 j (nI (wC (t 1) (tcf s.1 0) (t 5 j) (t 4 j) % 1000000 / 100))) := by
      rw [hda]
      unfold dyF
      rw [if_neg hbut, if_pos hf]
    rw [k2, wlen_c hS (by omega) hf, k1, nI_add, nI_add]
    have e1 : s'.1 = spd (fun v => v - 1) s.1 (wR (t 1) (tcf s.1 0) (t 5 j) (t 4 j)) (wL (t 1) (tcf s.1 0) (t 5 j) (t 4 j) - 2) := by rw [hd2]
    have e2 : s'.2.1 = s.2.1 + 1 := by rw [hd2]
    have e3 : s'.2.2.1 = s.2.2.1 + wC (t 1) (tcf s.1 0) (t 5 j) (t 4 j) % 1000000 / 100 := by rw [hd2]
    rw [← e2, ← e3]
    obtain ⟨l1, l2⟩ := wL_b hS (show t 4 j < 8 from by omega) hf
    obtain ⟨wk, wp⟩ := wR_ok hS (show t 4 j < 8 from by omega) hf
    generalize wR (t 1) (tcf s.1 0) (t 5 j) (t 4 j) = R at *
    generalize wL (t 1) (tcf s.1 0) (t 5 j) (t 4 j) = len at *
    have hpos : ∀ i, i < len - 2 → 0 < s.1 (wT R i) := fun i' hi' => tcf_pos (wp i' hi')
    have hW : ∀ i, i < len → va_cpy (K 40) (K 59) 0 0 40 i = nI (R i) := by
      intro i hi
      rw [cpy0 (by omega)]
      exact k3 i hi
    generalize va_cpy (K 40) (K 59) 0 0 40 = W at *
    have fK2 : fr SO [] I (va_up K 59 W) := fr_up (fr_mono fK rfl rfl) rfl
    have hrun := c_addm_59 (e := e) (I := va_up K 59 W) (L := L) (t := t) (nw := s.1) (R := R) (len := len) (m := len - 2) (F := K 52) (Q := fun I11 => C_X3_tryFrom_51_3_38 e d (nI (msk (l ++ [j]))) (nI s'.2.1) (nI s'.2.2.1) I11 L (fun I14 => C_X10_addToTurns_59_52 e (nI len) (nI 1) I14 L (fun I17 => Q I17))) (fun i hi => hW i hi) (by omega) rfl wk hb hpos (fun k hk5 hp => by rw [fK.1 52 (by decide) (by decide)]; exact h52 k hk5 hp) (fun F' hF' => ?_)
    · have hid : va_up (va_up K 59 W) 52 (K 52) = va_up K 59 W := up_id (va_up K 59 W) 52
      rw [hid] at hrun
      exact hrun
    · have fF : fr SO [] I (va_up (va_up K 59 W) 52 F') := fr_up fK2 rfl
      refine ih b d _ _ ⟨fr_CT fF hC rfl, fun k hk5 hp => ?_, fun i hi => ?_, BC_c hB ?_ ?_⟩ hd (fun J j1 j2 j3 => ?_)
      · show F' k = _
        rw [e1]
        exact hF' k hk5 hp
      · show K 60 i = _
        rw [fK.1 60 (by decide) (by decide)]
        exact h60 i hi
      · exact fK.1 51 (by decide) (by decide)
      · exact fK.1 61 (by decide) (by decide)
      · obtain ⟨j4, j5, j6, j7⟩ := j1
        have fJ := fr_trans fF j2
        have hWJ : ∀ i, i < len → J 59 i = nI (R i) := by
          intro i hi
          have h9 := j3 5 (by omega)
          show J (54 + 5) i = _
          rw [h9]
          exact hW i hi
        rw [e1] at j5
        have hrun := c_addp_59 (e := e) (I := J) (L := L) (t := t) (nw := spd (fun v => v - 1) s.1 R (len - 2)) (R := R) (len := len) (m := len - 2) (F := J 52) (Q := fun I17 => Q I17) hWJ (by omega) rfl wk (spd_b hb (fun v h => by omega)) j5 (fun F2 hF2 => ?_)
        · rw [up_id] at hrun
          exact hrun
        · refine hQ _ ⟨fr_CT (fr_up fJ rfl) hC rfl, fun k hk5 hp => ?_, fun i hi => ?_, BC_c j7 rfl rfl⟩ (fr_up fJ rfl) (fun i hi => ?_)
          · show F2 k = _
            rw [hF2 k hk5 hp, spd_pm wk hpos]
          · show J 60 i = _
            rw [j6 i (by omega), gd_l hi]
          · rw [up_n (by omega), j3 i (by omega), up_n (by omega), up_n (by omega)]
            exact fK.1 _ (fun hm => by simp only [List.mem_cons, List.mem_nil_iff, or_false] at hm; omega) (by omega)
  · rw [tcm_0] at hf
    refine ⟨fun _ => ?_, fun h => absurd rfl h⟩
    have hd2 : s' = (s.1, s.2.1, s.2.2.1, if s.2.2.2.1 = (-1 : Int32) then nI j else s.2.2.2.1, va_up s.2.2.2.2 j (-1 : Int32)) := by
      rw [hda]
      unfold dyF
      rw [if_neg hbut, if_neg hf]
    have e1 : s'.1 = s.1 := by rw [hd2]
    have e2 : s'.2.1 = s.2.1 := by rw [hd2]
    have e3 : s'.2.2.1 = s.2.2.1 := by rw [hd2]
    rw [← e2, ← e3]
    have fF : fr SO [] I K := fr_mono fK rfl rfl
    refine ih b d _ _ ⟨fr_CT fF hC rfl, fun k hk5 hp => ?_, fun i hi => ?_, BC_c hB ?_ ?_⟩ hd (fun J j1 j2 j3 => ?_)
    · rw [fK.1 52 (by decide) (by decide), e1]
      exact h52 k hk5 hp
    · rw [fK.1 60 (by decide) (by decide)]
      exact h60 i hi
    · exact fK.1 51 (by decide) (by decide)
    · exact fK.1 61 (by decide) (by decide)
    · obtain ⟨j4, j5, j6, j7⟩ := j1
      refine hQ _ ⟨j4, fun k hk5 hp => ?_, fun i hi => ?_, j7⟩ (fr_trans fF j2) (fun i hi => ?_)
      · rw [j5 k hk5 hp, e1]
      · rw [j6 i (by omega), gd_l hi]
      · rw [j3 i (by omega)]
        exact fK.1 _ (fun hm => by simp only [List.mem_cons, List.mem_nil_iff, or_false] at hm; omega) (by omega)
