/-! town -/
theorem frT_M {w : Nat} {t : tw} {I0 J : Nat → Nat → Int32} (h : frT I0 J) (hk : tok t) (hw : w ≤ 3) (hM : MTw w t I0) : MTw w t J := by
  obtain ⟨z1, z2, z3, z4, z5, z6, z7, z8⟩ := h
  have hE : t 0 4 ≤ 6 := by
    obtain ⟨o0, oT, oZ, oY, oD, o9, oN, o28, oB, oX, oE, oF, oA, oH, oU, oV⟩ := hk
    exact oE
  obtain ⟨a1, a2, a3, a4, a5, a6, a7, a8, a9, b1, b2, b3, b4, b5⟩ := hM
  have e85 := z1 85 (by decide) (by omega)
  refine ⟨?_, ?_, ?_, ?_, ?_, ?_, fun k hk => ?_, fun k hk => ?_, fun k hk => ?_, fun j hj => ?_, fun j hj => ?_, fun j hj => ?_, by rw [e85]; exact b4, by rw [e85]; exact b5⟩
  · rw [z3 w (by omega)]; exact a1
  · rw [z4 _ (by omega)]; exact a2
  · rw [z4 _ (by omega)]; exact a3
  · rw [z4 _ (by omega)]; exact a4
  · rw [z4 _ (by omega)]; exact a5
  · rw [z4 _ (by omega)]; exact a6
  · rw [z5 _ (by omega)]; exact a7 k hk
  · rw [z6 _ (by omega)]; exact a8 k hk
  · rw [z7 _ (by omega)]; exact a9 k hk
  · rw [z8 _ (by omega)]; exact b1 j hj
  · rw [z8 _ (by omega)]; exact b2 j hj
  · rw [z8 _ (by omega)]; exact b3 j hj
theorem OC_f {B : tw → Nat × Nat × (Nat → Nat)} {t : tw} {I J : Nat → Nat → Int32} {m m' : Nat} (h : OC B t I m) (h17 : J 0 12 = I 0 12) (h18 : J 0 13 = I 0 13) (h51 : J 51 = I 51) (h61 : J 61 = I 61) (hm : m ≤ m') : OC B t J m' := by
  obtain ⟨c, hc, h1⟩ := h
  rw [← h17, ← h18, ← h51, ← h61] at h1
  exact ⟨c, by omega, h1⟩
/-- images stay, where nothing of theirs changes -/
theorem IM_w {e : am_V} {I K : Nat → Nat → Int32} (h : IM e I) (h86 : K 86 = I 86) (hb : ∀ a, 97 ≤ a → K a = I a) (hM : ∀ w t, 1 ≤ w → w ≤ 3 → tok t → MTw w t I → MTw w t K) : IM e K := by
  refine ⟨fun k hk => ?_, h.2⟩
  have h1 := h.1 k hk
  cases hi : am_im e.1 k with
  | none =>
    rw [hi] at h1
    show K 86 k = nI 0
    rw [h86]
    exact h1
  | some b =>
    rw [hi] at h1
    obtain ⟨g1, g2, g3, t, g4, g5, g6⟩ := h1
    exact ⟨by rw [h86]; exact g1, g2, g3, t, g4, CTb_c (fun a h7 h8 => hb a (by omega)) g5, hM (1 + k) t (by omega) (by omega) g4 g6⟩
theorem r_town {B : tw → Nat × Nat × (Nat → Nat)} {e : am_V} {I : Nat → Nat → Int32} {L : Nat → Nat → Int64} {t : tw} {m : Nat} {Q : Int32 → Int32 → (Nat → Nat → Int32) → (Nat → Nat → Int64) → Prop} (hR : Rel B e t I L m) (hm : m < 1000000) (hQ : ∀ r J t' M, (∀ a, 97 ≤ a → J a = I a) → (∀ a, a ≠ 73 → M a = L a) → Rel B e t' J M (m + 1) → Q r r J M) : C_X10_town_0 e I L (fun r J => C_X11_town_73 e J L (fun r' K M => Q r r' K M)) := by
  obtain ⟨h1, h2, h3, ⟨tp, tp1, tp2, tp3, tp4, tp5, tp6⟩, h5, h6, h7⟩ := hR
  refine b_X10_town_0 ?_
  refine c_read (b := I 1) (n := tp) rfl tp1 tp2 (fun I2 t' hp ht h05 hfr i2 i6 i7 hN => ⟨fun _ => ?_, fun h => absurd i6 h⟩) (fun I2 w s hp w1 w2 hfr i2 i6 i7 => ⟨fun h => ?_, fun _ => ?_⟩)
  · refine c_become_3_15 ht hN (fun I5 j1 j2 => ?_)
    have e33 : I5 3 3 = nI (t' 0 3) := j2.2.2.2.1
    rw [e33]
    generalize hJ : va_up I5 0 (va_up (I5 0) 12 (I5 0 12 + nI 1)) = J
    have i20 : I2 0 = I 0 := hfr 0 (by omega) (by decide)
    have r0 : J 0 = va_up (I 0) 12 (I 0 12 + nI 1) := by rw [← hJ, up_s, j1 0 (by omega), i20]
    have r37 : J 37 = I2 37 := by rw [← hJ, up_n (by decide), j1 37 (by omega)]
    have ro : ∀ a, a ≠ 0 → (a < 3 ∨ 26 < a) → a ≠ 37 → J a = I a := fun a n0 na n37 => by
      rw [← hJ, up_n n0, j1 a (by omega)]
      exact hfr a (by omega) n37
    have hCJ : CT t' J := CTb_c (b := 3) (fun a h8 h9 => by rw [← hJ, up_n (by omega)]) j2
    refine m_town (b := I 1) (n := tp) (fun k hk => by rw [ro 78 (by decide) (by omega) (by decide)]; exact (tp4 k hk).symm) tp1 (by rw [ro 73 (by decide) (by omega) (by decide)]; exact tp3) (fun t2 p Jm M hp2 ht2 h052 g K hK => ?_) (fun w s Jm M hp2 hF => ?_)
    rotate_left
    · rw [hp] at hp2; cases hp2
    have et : t2 = t' := by rw [hp] at hp2; exact (Sum.inr.inj hp2).symm
    subst et
    generalize hZ : va_up (va_up (va_up Jm 73 (va_up (Jm 73) 6 (nI 0))) 73 (va_up (va_up (Jm 73) 6 (nI 0)) 14 (Jm 73 12))) 73 (va_up (va_up (va_up (Jm 73) 6 (nI 0)) 14 (Jm 73 12)) 15 (-1 : Int32)) = Z at hK
    have zo : ∀ a, a ≠ 73 → Z a = Jm a := fun a ha => by rw [← hZ, up_n ha, up_n ha, up_n ha]
    have z73 : Z 73 = va_up (va_up (va_up (Jm 73) 6 (nI 0)) 14 (Jm 73 12)) 15 (-1 : Int32) := by rw [← hZ, up_s]
    have fT := g.2.2.2.1
    have jo : ∀ a, a ≠ 73 → (a < 79 ∨ 84 < a) → Jm a = J a := fun a ha hb => by rw [fT.1 a ha hb, up_n ha]
    have ko : ∀ a, a ≠ 73 → (a < 79 ∨ 85 < a) → K a = J a := fun a ha hb => by rw [hK.1 a hb, zo a ha]; exact jo a ha (by omega)
    have k73 : K 73 = Z 73 := hK.1 73 (by omega)
    have hMK : MT t2 K := MT_w.mpr (cpW_b hK ht2 (MTw_c (fun a h8 h9 => zo a (by omega)) g.2.2.2.2.2))
    rw [show K 79 0 = nI (t2 0 3) from hMK.1]
    refine hQ _ _ t2 M (fun a ha => by rw [ko a (by omega) (by omega)]; exact ro a (by omega) (by omega) (by omega)) g.2.2.2.2.1 ⟨ht2, CTb_c (b := 3) (fun a h8 h9 => ko a (by omega) (by omega)) hCJ, hMK, ⟨0, by decide, ?_, ?_, fun k hk => ?_, ?_, ?_⟩, ?_, ?_, ?_⟩
    · rw [ko 37 (by decide) (by omega), r37]; exact i2
    · rw [k73, z73]; rfl
    · rw [ko 1 (by decide) (by omega), ko 78 (by decide) (by omega), ro 1 (by decide) (by omega) (by decide), ro 78 (by decide) (by omega) (by decide)]; exact tp4 k hk
    · rw [ko 37 (by decide) (by omega), r37, i6, k73, z73]
      show nI 0 = Jm 73 12
      exact g.2.2.1.symm
    · rw [ko 37 (by decide) (by omega), r37, i7, k73, z73]; rfl
    · refine SL_c h5 (fun s hs => ?_) ?_ ?_ (fun a n1 n2 n3 => g.2.2.2.2.1 a n2)
      · rw [ko _ (by omega) (by omega)]; exact ro _ (by omega) (by omega) (by omega)
      · rw [ko _ (by omega) (by omega)]; exact ro _ (by omega) (by omega) (by omega)
      · rw [ko _ (by omega) (by omega)]; exact ro _ (by omega) (by omega) (by omega)
    · refine IM_w h6 (by rw [ko 86 (by decide) (by omega)]; exact ro 86 (by decide) (by omega) (by decide)) (fun a ha => by rw [ko a (by omega) (by omega)]; exact ro a (by omega) (by omega) (by omega)) (fun w t3 hw1 hw2 ht3 hM => ?_)
      have hM1 : MTw w t3 (va_up J 73 (va_up (J 73) 0 (nI 0))) := MTw_c (fun a h8 h9 => by rw [up_n (by omega)]; exact ro a (by omega) (by omega) (by omega)) hM
      exact cpW_o hK ht3 (by omega) (MTw_c (fun a h8 h9 => zo a (by omega)) (frT_M fT ht3 hw2 hM1))
    · refine OC_up h7 hm ?_ ?_
      · rw [ko 0 (by decide) (by omega), r0]; rfl
      · rw [ko 0 (by decide) (by omega), r0]; rfl
  · rw [i6, nI_eq (by omega) (by decide)] at h
    omega
  · have ro : ∀ a, a ≠ 0 → (a < 15 ∨ 26 < a) → a ≠ 37 → I2 a = I a := fun a _ na n37 => hfr a na n37
    have i20 : I2 0 = I 0 := hfr 0 (by omega) (by decide)
    refine m_town (b := I 1) (n := tp) (fun k hk => by rw [ro 78 (by decide) (by omega) (by decide)]; exact (tp4 k hk).symm) tp1 (by rw [ro 73 (by decide) (by omega) (by decide)]; exact tp3) (fun t2 p Jm M hp2 ht2 h052 g K hK => ?_) (fun w' s' Jm M hp2 hF => ?_)
    · rw [hp] at hp2; cases hp2
    have ews : w' = w ∧ s' = s := by
      rw [hp] at hp2
      have h8 := Sum.inl.inj hp2
      exact ⟨(congrArg Prod.fst h8).symm, (congrArg Prod.snd h8).symm⟩
    obtain ⟨rfl, rfl⟩ := ews
    have fT := hF.2.2.2.1
    have jo : ∀ a, a ≠ 73 → (a < 79 ∨ 84 < a) → Jm a = I2 a := fun a ha hb => by rw [fT.1 a ha hb, up_n ha]
    generalize hZ : va_up (va_up (va_up Jm 73 (va_up (Jm 73) 6 (nI 0))) 73 (va_up (va_up (Jm 73) 6 (nI 0)) 14 (Jm 73 12))) 73 (va_up (va_up (va_up (Jm 73) 6 (nI 0)) 14 (Jm 73 12)) 15 (Jm 73 13)) = Z
    have zo : ∀ a, a ≠ 73 → Z a = Jm a := fun a ha => by rw [← hZ, up_n ha, up_n ha, up_n ha]
    have z73 : Z 73 = va_up (va_up (va_up (Jm 73) 6 (nI 0)) 14 (Jm 73 12)) 15 (Jm 73 13) := by rw [← hZ, up_s]
    have ko : ∀ a, a ≠ 73 → (a < 79 ∨ 84 < a) → Z a = I2 a := fun a ha hb => by rw [zo a ha]; exact jo a ha hb
    have gM : ∀ w t3, w ≤ 3 → tok t3 → MTw w t3 I → MTw w t3 Z := fun w t3 hw2 ht3 hM => by
      have hM1 : MTw w t3 (va_up I2 73 (va_up (I2 73) 0 (nI 0))) := MTw_c (fun a h8 h9 => by rw [up_n (by omega)]; exact ro a (by omega) (by omega) (by omega)) hM
      exact MTw_c (fun a h8 h9 => zo a (by omega)) (frT_M fT ht3 hw2 hM1)
    refine hQ _ _ t M (fun a ha => by rw [ko a (by omega) (by omega)]; exact ro a (by omega) (by omega) (by omega)) hF.2.2.2.2 ⟨h1, CTb_c (b := 3) (fun a h8 h9 => by rw [ko a (by omega) (by omega)]; exact ro a (by omega) (by omega) (by omega)) h2, MT_w.mpr (gM 0 t (by omega) h1 (MT_w.mp h3)), ⟨0, by decide, ?_, ?_, fun k hk => ?_, ?_, ?_⟩, ?_, ?_, ?_⟩
    · rw [ko 37 (by decide) (by omega)]; exact i2
    · rw [z73]; rfl
    · rw [ko 1 (by decide) (by omega), ko 78 (by decide) (by omega), ro 1 (by decide) (by omega) (by decide), ro 78 (by decide) (by omega) (by decide)]; exact tp4 k hk
    · rw [ko 37 (by decide) (by omega), i6, z73]
      show nI w' = Jm 73 12
      exact hF.2.1.symm
    · rw [ko 37 (by decide) (by omega), i7, z73]
      show nI s' = Jm 73 13
      exact hF.2.2.1.symm
    · refine SL_c h5 (fun s hs => ?_) ?_ ?_ (fun a n1 n2 n3 => hF.2.2.2.2 a n2)
      · rw [ko _ (by omega) (by omega)]; exact ro _ (by omega) (by omega) (by omega)
      · rw [ko _ (by omega) (by omega)]; exact ro _ (by omega) (by omega) (by omega)
      · rw [ko _ (by omega) (by omega)]; exact ro _ (by omega) (by omega) (by omega)
    · exact IM_w h6 (by rw [ko 86 (by decide) (by omega)]; exact ro 86 (by decide) (by omega) (by decide)) (fun a ha => by rw [ko a (by omega) (by omega)]; exact ro a (by omega) (by omega) (by omega)) (fun w t3 _ hw2 ht3 hM => gM w t3 hw2 ht3 hM)
    · refine OC_f h7 ?_ ?_ ?_ ?_ (by omega)
      · rw [ko 0 (by decide) (by omega), i20]
      · rw [ko 0 (by decide) (by omega), i20]
      · rw [ko 51 (by decide) (by omega)]; exact ro 51 (by decide) (by omega) (by decide)
      · rw [ko 61 (by decide) (by omega)]; exact ro 61 (by decide) (by omega) (by decide)
