/-! a town becomes another's likeness: the class's (become), the reference's (copyTown) -/
/-- what the class's town at b shows, its lists aside -/
def NLb (b : Nat) (t : tw) (I : Nat → Nat → Int32) : Prop := I b 0 = nI (t 0 0) ∧ I b 1 = nI (t 0 1) ∧ I b 2 = nI (t 0 2) ∧ I b 3 = nI (t 0 3) ∧ I b 4 = nI ((ar t).length / 2) ∧ I b 7 = nI (t 0 4) ∧ I b 8 = nI (t 0 5) ∧ (∀ k, k < 64 → I (b + 1) k = nI (t 1 k)) ∧ (∀ k, k < 512 → tB t k = true → I (b + 6) k = nI (t 2 k)) ∧ (∀ k, k < 512 → tB t k = true → I (b + 7) k = nI (t 3 k)) ∧ (∀ j, j < t 0 4 → I (b + 8) j = nI (t 4 j)) ∧ (∀ j, j < t 0 4 → I (b + 9) j = nI (t 5 j)) ∧ (∀ j, j < t 0 4 → I (b + 10) j = nI (t 6 j)) ∧ (∀ i, i < t 0 5 → I (b + 11) i = nI (2 * t 7 i + t 8 i))
theorem CTb_N {b : Nat} {t : tw} {I : Nat → Nat → Int32} (h : CTb b t I) : NLb b t I := by
  obtain ⟨c0, c1, c2, c3, c4, c5, c6, c7, c8, cS, cD, cN, cA, cT, cM, cR, cF, cO, cH, cL⟩ := h
  exact ⟨c0, c1, c2, c3, c4, c7, c8, cS, cM, cR, cF, cO, cH, cL⟩
theorem c_setN_3 {e : am_V} {I : Nat → Nat → Int32} {L : Nat → Nat → Int64} {Q : (Nat → Nat → Int32) → Prop} {t : tw} (hN : NLb 3 t I) (h9 : ∀ k, k < 64 → t 1 k ≤ 9) (hQ : ∀ J, frS3 I J → CTb 3 t J → Q J) : C_X7_settle_3 e I L Q := by
  obtain ⟨n0, n1, n2, n3, n4, n7, n8, nS, nM, nR, nF, nO, nH, nL⟩ := hN
  refine c_settle_3 nS h9 (fun J f s5 s6 sD sN sA sT => hQ J f ?_)
  have g : ∀ a, a ≠ 3 → a ≠ 5 → a ≠ 6 → a ≠ 7 → a ≠ 8 → J a = I a := f.1
  have g2 := f.2
  refine ⟨(g2 0 (by decide) (by decide)).trans n0, (g2 1 (by decide) (by decide)).trans n1, (g2 2 (by decide) (by decide)).trans n2, (g2 3 (by decide) (by decide)).trans n3, (g2 4 (by decide) (by decide)).trans n4, s5, s6, (g2 7 (by decide) (by decide)).trans n7, (g2 8 (by decide) (by decide)).trans n8, fun k hk => ?_, sD, sN, sA, sT, fun k hk hb => ?_, fun k hk hb => ?_, fun j hj => ?_, fun j hj => ?_, fun j hj => ?_, fun i hi => ?_⟩
  · show J 4 k = _
    rw [g 4 (by decide) (by decide) (by decide) (by decide) (by decide)]; exact nS k hk
  · show J 9 k = _
    rw [g 9 (by decide) (by decide) (by decide) (by decide) (by decide)]; exact nM k hk hb
  · show J 10 k = _
    rw [g 10 (by decide) (by decide) (by decide) (by decide) (by decide)]; exact nR k hk hb
  · show J 11 j = _
    rw [g 11 (by decide) (by decide) (by decide) (by decide) (by decide)]; exact nF j hj
  · show J 12 j = _
    rw [g 12 (by decide) (by decide) (by decide) (by decide) (by decide)]; exact nO j hj
  · show J 13 j = _
    rw [g 13 (by decide) (by decide) (by decide) (by decide) (by decide)]; exact nH j hj
  · show J 14 i = _
    rw [g 14 (by decide) (by decide) (by decide) (by decide) (by decide)]; exact nL i hi
theorem c_setN_97 {e : am_V} {I : Nat → Nat → Int32} {L : Nat → Nat → Int64} {Q : (Nat → Nat → Int32) → Prop} {t : tw} (hN : NLb 97 t I) (h9 : ∀ k, k < 64 → t 1 k ≤ 9) (hQ : ∀ J, frS97 I J → CTb 97 t J → Q J) : C_X7_settle_97 e I L Q := by
  obtain ⟨n0, n1, n2, n3, n4, n7, n8, nS, nM, nR, nF, nO, nH, nL⟩ := hN
  refine c_settle_97 nS h9 (fun J f s5 s6 sD sN sA sT => hQ J f ?_)
  have g : ∀ a, a ≠ 97 → a ≠ 99 → a ≠ 100 → a ≠ 101 → a ≠ 102 → J a = I a := f.1
  have g2 := f.2
  refine ⟨(g2 0 (by decide) (by decide)).trans n0, (g2 1 (by decide) (by decide)).trans n1, (g2 2 (by decide) (by decide)).trans n2, (g2 3 (by decide) (by decide)).trans n3, (g2 4 (by decide) (by decide)).trans n4, s5, s6, (g2 7 (by decide) (by decide)).trans n7, (g2 8 (by decide) (by decide)).trans n8, fun k hk => ?_, sD, sN, sA, sT, fun k hk hb => ?_, fun k hk hb => ?_, fun j hj => ?_, fun j hj => ?_, fun j hj => ?_, fun i hi => ?_⟩
  · show J 98 k = _
    rw [g 98 (by decide) (by decide) (by decide) (by decide) (by decide)]; exact nS k hk
  · show J 103 k = _
    rw [g 103 (by decide) (by decide) (by decide) (by decide) (by decide)]; exact nM k hk hb
  · show J 104 k = _
    rw [g 104 (by decide) (by decide) (by decide) (by decide) (by decide)]; exact nR k hk hb
  · show J 105 j = _
    rw [g 105 (by decide) (by decide) (by decide) (by decide) (by decide)]; exact nF j hj
  · show J 106 j = _
    rw [g 106 (by decide) (by decide) (by decide) (by decide) (by decide)]; exact nO j hj
  · show J 107 j = _
    rw [g 107 (by decide) (by decide) (by decide) (by decide) (by decide)]; exact nH j hj
  · show J 108 i = _
    rw [g 108 (by decide) (by decide) (by decide) (by decide) (by decide)]; exact nL i hi
theorem c_setN_109 {e : am_V} {I : Nat → Nat → Int32} {L : Nat → Nat → Int64} {Q : (Nat → Nat → Int32) → Prop} {t : tw} (hN : NLb 109 t I) (h9 : ∀ k, k < 64 → t 1 k ≤ 9) (hQ : ∀ J, frS109 I J → CTb 109 t J → Q J) : C_X7_settle_109 e I L Q := by
  obtain ⟨n0, n1, n2, n3, n4, n7, n8, nS, nM, nR, nF, nO, nH, nL⟩ := hN
  refine c_settle_109 nS h9 (fun J f s5 s6 sD sN sA sT => hQ J f ?_)
  have g : ∀ a, a ≠ 109 → a ≠ 111 → a ≠ 112 → a ≠ 113 → a ≠ 114 → J a = I a := f.1
  have g2 := f.2
  refine ⟨(g2 0 (by decide) (by decide)).trans n0, (g2 1 (by decide) (by decide)).trans n1, (g2 2 (by decide) (by decide)).trans n2, (g2 3 (by decide) (by decide)).trans n3, (g2 4 (by decide) (by decide)).trans n4, s5, s6, (g2 7 (by decide) (by decide)).trans n7, (g2 8 (by decide) (by decide)).trans n8, fun k hk => ?_, sD, sN, sA, sT, fun k hk hb => ?_, fun k hk hb => ?_, fun j hj => ?_, fun j hj => ?_, fun j hj => ?_, fun i hi => ?_⟩
  · show J 110 k = _
    rw [g 110 (by decide) (by decide) (by decide) (by decide) (by decide)]; exact nS k hk
  · show J 115 k = _
    rw [g 115 (by decide) (by decide) (by decide) (by decide) (by decide)]; exact nM k hk hb
  · show J 116 k = _
    rw [g 116 (by decide) (by decide) (by decide) (by decide) (by decide)]; exact nR k hk hb
  · show J 117 j = _
    rw [g 117 (by decide) (by decide) (by decide) (by decide) (by decide)]; exact nF j hj
  · show J 118 j = _
    rw [g 118 (by decide) (by decide) (by decide) (by decide) (by decide)]; exact nO j hj
  · show J 119 j = _
    rw [g 119 (by decide) (by decide) (by decide) (by decide) (by decide)]; exact nH j hj
  · show J 120 i = _
    rw [g 120 (by decide) (by decide) (by decide) (by decide) (by decide)]; exact nL i hi
theorem c_setN_121 {e : am_V} {I : Nat → Nat → Int32} {L : Nat → Nat → Int64} {Q : (Nat → Nat → Int32) → Prop} {t : tw} (hN : NLb 121 t I) (h9 : ∀ k, k < 64 → t 1 k ≤ 9) (hQ : ∀ J, frS121 I J → CTb 121 t J → Q J) : C_X7_settle_121 e I L Q := by
  obtain ⟨n0, n1, n2, n3, n4, n7, n8, nS, nM, nR, nF, nO, nH, nL⟩ := hN
  refine c_settle_121 nS h9 (fun J f s5 s6 sD sN sA sT => hQ J f ?_)
  have g : ∀ a, a ≠ 121 → a ≠ 123 → a ≠ 124 → a ≠ 125 → a ≠ 126 → J a = I a := f.1
  have g2 := f.2
  refine ⟨(g2 0 (by decide) (by decide)).trans n0, (g2 1 (by decide) (by decide)).trans n1, (g2 2 (by decide) (by decide)).trans n2, (g2 3 (by decide) (by decide)).trans n3, (g2 4 (by decide) (by decide)).trans n4, s5, s6, (g2 7 (by decide) (by decide)).trans n7, (g2 8 (by decide) (by decide)).trans n8, fun k hk => ?_, sD, sN, sA, sT, fun k hk hb => ?_, fun k hk hb => ?_, fun j hj => ?_, fun j hj => ?_, fun j hj => ?_, fun i hi => ?_⟩
  · show J 122 k = _
    rw [g 122 (by decide) (by decide) (by decide) (by decide) (by decide)]; exact nS k hk
  · show J 127 k = _
    rw [g 127 (by decide) (by decide) (by decide) (by decide) (by decide)]; exact nM k hk hb
  · show J 128 k = _
    rw [g 128 (by decide) (by decide) (by decide) (by decide) (by decide)]; exact nR k hk hb
  · show J 129 j = _
    rw [g 129 (by decide) (by decide) (by decide) (by decide) (by decide)]; exact nF j hj
  · show J 130 j = _
    rw [g 130 (by decide) (by decide) (by decide) (by decide) (by decide)]; exact nO j hj
  · show J 131 j = _
    rw [g 131 (by decide) (by decide) (by decide) (by decide) (by decide)]; exact nH j hj
  · show J 132 i = _
    rw [g 132 (by decide) (by decide) (by decide) (by decide) (by decide)]; exact nL i hi
theorem c_become_3_15 {e : am_V} {I : Nat → Nat → Int32} {L : Nat → Nat → Int64} {Q : (Nat → Nat → Int32) → Prop} {t : tw} (hk : tok t) (hN : NLb 15 t I) (hQ : ∀ J, (∀ a, (a < 3 ∨ 14 < a) → J a = I a) → CTb 3 t J → Q J) : C_X7_become_3_15 e I L Q := by
  obtain ⟨n0, n1, n2, n3, n4, n7, n8, nS, nM, nR, nF, nO, nH, nL⟩ := hN
  have h9 := hk.2.2.2.2.2.1
  have hE : t 0 4 ≤ 6 := by
    obtain ⟨o0, oT, oZ, oY, oD, o9, oN, o28, oB, oX, oE, oF, oA, oH, oU, oV⟩ := hk
    exact oE
  have hA : t 0 5 ≤ 60 := by
    obtain ⟨o0, oT, oZ, oY, oD, o9, oN, o28, oB, oX, oE, oF, oA, oH, oU, oV⟩ := hk
    exact oA
  refine b_X7_become_3_15 ?_
  refine c_setN_3 (t := t) ⟨n0, n1, n2, n3, n4, n7, n8, fun k hk => ?_, fun k hk hb => ?_, fun k hk hb => ?_, fun j hj => ?_, fun j hj => ?_, fun j hj => ?_, fun i hi => ?_⟩ h9 (fun J f hC => hQ J (fun a ha => ?_) hC)
  · show va_cpy (I 16) (I 4) 0 0 64 k = _
    rw [cpy0 hk]; exact nS k hk
  · show va_cpy (I 21) (I 9) 0 0 512 k = _
    rw [cpy0 hk]; exact nM k hk hb
  · show va_cpy (I 22) (I 10) 0 0 512 k = _
    rw [cpy0 hk]; exact nR k hk hb
  · show va_cpy (I 23) (I 11) 0 0 6 j = _
    rw [cpy0 (by omega)]; exact nF j hj
  · show va_cpy (I 24) (I 12) 0 0 6 j = _
    rw [cpy0 (by omega)]; exact nO j hj
  · show va_cpy (I 25) (I 13) 0 0 6 j = _
    rw [cpy0 (by omega)]; exact nH j hj
  · show va_cpy (I 26) (I 14) 0 0 60 i = _
    rw [cpy0 (by omega)]; exact nL i hi
  · rw [f.1 a (by omega) (by omega) (by omega) (by omega) (by omega)]
    rw [up_n (by omega), up_n (by omega), up_n (by omega), up_n (by omega), up_n (by omega), up_n (by omega), up_n (by omega), up_n (by omega), up_n (by omega), up_n (by omega), up_n (by omega), up_n (by omega), up_n (by omega), up_n (by omega)]
theorem c_become_97_3 {e : am_V} {I : Nat → Nat → Int32} {L : Nat → Nat → Int64} {Q : (Nat → Nat → Int32) → Prop} {t : tw} (hk : tok t) (hN : NLb 3 t I) (hQ : ∀ J, (∀ a, (a < 97 ∨ 108 < a) → J a = I a) → CTb 97 t J → Q J) : C_X7_become_97_3 e I L Q := by
  obtain ⟨n0, n1, n2, n3, n4, n7, n8, nS, nM, nR, nF, nO, nH, nL⟩ := hN
  have h9 := hk.2.2.2.2.2.1
  have hE : t 0 4 ≤ 6 := by
    obtain ⟨o0, oT, oZ, oY, oD, o9, oN, o28, oB, oX, oE, oF, oA, oH, oU, oV⟩ := hk
    exact oE
  have hA : t 0 5 ≤ 60 := by
    obtain ⟨o0, oT, oZ, oY, oD, o9, oN, o28, oB, oX, oE, oF, oA, oH, oU, oV⟩ := hk
    exact oA
  refine b_X7_become_97_3 ?_
  refine c_setN_97 (t := t) ⟨n0, n1, n2, n3, n4, n7, n8, fun k hk => ?_, fun k hk hb => ?_, fun k hk hb => ?_, fun j hj => ?_, fun j hj => ?_, fun j hj => ?_, fun i hi => ?_⟩ h9 (fun J f hC => hQ J (fun a ha => ?_) hC)
  · show va_cpy (I 4) (I 98) 0 0 64 k = _
    rw [cpy0 hk]; exact nS k hk
  · show va_cpy (I 9) (I 103) 0 0 512 k = _
    rw [cpy0 hk]; exact nM k hk hb
  · show va_cpy (I 10) (I 104) 0 0 512 k = _
    rw [cpy0 hk]; exact nR k hk hb
  · show va_cpy (I 11) (I 105) 0 0 6 j = _
    rw [cpy0 (by omega)]; exact nF j hj
  · show va_cpy (I 12) (I 106) 0 0 6 j = _
    rw [cpy0 (by omega)]; exact nO j hj
  · show va_cpy (I 13) (I 107) 0 0 6 j = _
    rw [cpy0 (by omega)]; exact nH j hj
  · show va_cpy (I 14) (I 108) 0 0 60 i = _
    rw [cpy0 (by omega)]; exact nL i hi
  · rw [f.1 a (by omega) (by omega) (by omega) (by omega) (by omega)]
    rw [up_n (by omega), up_n (by omega), up_n (by omega), up_n (by omega), up_n (by omega), up_n (by omega), up_n (by omega), up_n (by omega), up_n (by omega), up_n (by omega), up_n (by omega), up_n (by omega), up_n (by omega), up_n (by omega)]
theorem c_become_109_3 {e : am_V} {I : Nat → Nat → Int32} {L : Nat → Nat → Int64} {Q : (Nat → Nat → Int32) → Prop} {t : tw} (hk : tok t) (hN : NLb 3 t I) (hQ : ∀ J, (∀ a, (a < 109 ∨ 120 < a) → J a = I a) → CTb 109 t J → Q J) : C_X7_become_109_3 e I L Q := by
  obtain ⟨n0, n1, n2, n3, n4, n7, n8, nS, nM, nR, nF, nO, nH, nL⟩ := hN
  have h9 := hk.2.2.2.2.2.1
  have hE : t 0 4 ≤ 6 := by
    obtain ⟨o0, oT, oZ, oY, oD, o9, oN, o28, oB, oX, oE, oF, oA, oH, oU, oV⟩ := hk
    exact oE
  have hA : t 0 5 ≤ 60 := by
    obtain ⟨o0, oT, oZ, oY, oD, o9, oN, o28, oB, oX, oE, oF, oA, oH, oU, oV⟩ := hk
    exact oA
  refine b_X7_become_109_3 ?_
  refine c_setN_109 (t := t) ⟨n0, n1, n2, n3, n4, n7, n8, fun k hk => ?_, fun k hk hb => ?_, fun k hk hb => ?_, fun j hj => ?_, fun j hj => ?_, fun j hj => ?_, fun i hi => ?_⟩ h9 (fun J f hC => hQ J (fun a ha => ?_) hC)
  · show va_cpy (I 4) (I 110) 0 0 64 k = _
    rw [cpy0 hk]; exact nS k hk
  · show va_cpy (I 9) (I 115) 0 0 512 k = _
    rw [cpy0 hk]; exact nM k hk hb
  · show va_cpy (I 10) (I 116) 0 0 512 k = _
    rw [cpy0 hk]; exact nR k hk hb
  · show va_cpy (I 11) (I 117) 0 0 6 j = _
    rw [cpy0 (by omega)]; exact nF j hj
  · show va_cpy (I 12) (I 118) 0 0 6 j = _
    rw [cpy0 (by omega)]; exact nO j hj
  · show va_cpy (I 13) (I 119) 0 0 6 j = _
    rw [cpy0 (by omega)]; exact nH j hj
  · show va_cpy (I 14) (I 120) 0 0 60 i = _
    rw [cpy0 (by omega)]; exact nL i hi
  · rw [f.1 a (by omega) (by omega) (by omega) (by omega) (by omega)]
    rw [up_n (by omega), up_n (by omega), up_n (by omega), up_n (by omega), up_n (by omega), up_n (by omega), up_n (by omega), up_n (by omega), up_n (by omega), up_n (by omega), up_n (by omega), up_n (by omega), up_n (by omega), up_n (by omega)]
theorem c_become_121_3 {e : am_V} {I : Nat → Nat → Int32} {L : Nat → Nat → Int64} {Q : (Nat → Nat → Int32) → Prop} {t : tw} (hk : tok t) (hN : NLb 3 t I) (hQ : ∀ J, (∀ a, (a < 121 ∨ 132 < a) → J a = I a) → CTb 121 t J → Q J) : C_X7_become_121_3 e I L Q := by
  obtain ⟨n0, n1, n2, n3, n4, n7, n8, nS, nM, nR, nF, nO, nH, nL⟩ := hN
  have h9 := hk.2.2.2.2.2.1
  have hE : t 0 4 ≤ 6 := by
    obtain ⟨o0, oT, oZ, oY, oD, o9, oN, o28, oB, oX, oE, oF, oA, oH, oU, oV⟩ := hk
    exact oE
  have hA : t 0 5 ≤ 60 := by
    obtain ⟨o0, oT, oZ, oY, oD, o9, oN, o28, oB, oX, oE, oF, oA, oH, oU, oV⟩ := hk
    exact oA
  refine b_X7_become_121_3 ?_
  refine c_setN_121 (t := t) ⟨n0, n1, n2, n3, n4, n7, n8, fun k hk => ?_, fun k hk hb => ?_, fun k hk hb => ?_, fun j hj => ?_, fun j hj => ?_, fun j hj => ?_, fun i hi => ?_⟩ h9 (fun J f hC => hQ J (fun a ha => ?_) hC)
  · show va_cpy (I 4) (I 122) 0 0 64 k = _
    rw [cpy0 hk]; exact nS k hk
  · show va_cpy (I 9) (I 127) 0 0 512 k = _
    rw [cpy0 hk]; exact nM k hk hb
  · show va_cpy (I 10) (I 128) 0 0 512 k = _
    rw [cpy0 hk]; exact nR k hk hb
  · show va_cpy (I 11) (I 129) 0 0 6 j = _
    rw [cpy0 (by omega)]; exact nF j hj
  · show va_cpy (I 12) (I 130) 0 0 6 j = _
    rw [cpy0 (by omega)]; exact nO j hj
  · show va_cpy (I 13) (I 131) 0 0 6 j = _
    rw [cpy0 (by omega)]; exact nH j hj
  · show va_cpy (I 14) (I 132) 0 0 60 i = _
    rw [cpy0 (by omega)]; exact nL i hi
  · rw [f.1 a (by omega) (by omega) (by omega) (by omega) (by omega)]
    rw [up_n (by omega), up_n (by omega), up_n (by omega), up_n (by omega), up_n (by omega), up_n (by omega), up_n (by omega), up_n (by omega), up_n (by omega), up_n (by omega), up_n (by omega), up_n (by omega), up_n (by omega), up_n (by omega)]
theorem c_become_3_97 {e : am_V} {I : Nat → Nat → Int32} {L : Nat → Nat → Int64} {Q : (Nat → Nat → Int32) → Prop} {t : tw} (hk : tok t) (hN : NLb 97 t I) (hQ : ∀ J, (∀ a, (a < 3 ∨ 14 < a) → J a = I a) → CTb 3 t J → Q J) : C_X7_become_3_97 e I L Q := by
  obtain ⟨n0, n1, n2, n3, n4, n7, n8, nS, nM, nR, nF, nO, nH, nL⟩ := hN
  have h9 := hk.2.2.2.2.2.1
  have hE : t 0 4 ≤ 6 := by
    obtain ⟨o0, oT, oZ, oY, oD, o9, oN, o28, oB, oX, oE, oF, oA, oH, oU, oV⟩ := hk
    exact oE
  have hA : t 0 5 ≤ 60 := by
    obtain ⟨o0, oT, oZ, oY, oD, o9, oN, o28, oB, oX, oE, oF, oA, oH, oU, oV⟩ := hk
    exact oA
  refine b_X7_become_3_97 ?_
  refine c_setN_3 (t := t) ⟨n0, n1, n2, n3, n4, n7, n8, fun k hk => ?_, fun k hk hb => ?_, fun k hk hb => ?_, fun j hj => ?_, fun j hj => ?_, fun j hj => ?_, fun i hi => ?_⟩ h9 (fun J f hC => hQ J (fun a ha => ?_) hC)
  · show va_cpy (I 98) (I 4) 0 0 64 k = _
    rw [cpy0 hk]; exact nS k hk
  · show va_cpy (I 103) (I 9) 0 0 512 k = _
    rw [cpy0 hk]; exact nM k hk hb
  · show va_cpy (I 104) (I 10) 0 0 512 k = _
    rw [cpy0 hk]; exact nR k hk hb
  · show va_cpy (I 105) (I 11) 0 0 6 j = _
    rw [cpy0 (by omega)]; exact nF j hj
  · show va_cpy (I 106) (I 12) 0 0 6 j = _
    rw [cpy0 (by omega)]; exact nO j hj
  · show va_cpy (I 107) (I 13) 0 0 6 j = _
    rw [cpy0 (by omega)]; exact nH j hj
  · show va_cpy (I 108) (I 14) 0 0 60 i = _
    rw [cpy0 (by omega)]; exact nL i hi
  · rw [f.1 a (by omega) (by omega) (by omega) (by omega) (by omega)]
    rw [up_n (by omega), up_n (by omega), up_n (by omega), up_n (by omega), up_n (by omega), up_n (by omega), up_n (by omega), up_n (by omega), up_n (by omega), up_n (by omega), up_n (by omega), up_n (by omega), up_n (by omega), up_n (by omega)]
theorem c_become_3_109 {e : am_V} {I : Nat → Nat → Int32} {L : Nat → Nat → Int64} {Q : (Nat → Nat → Int32) → Prop} {t : tw} (hk : tok t) (hN : NLb 109 t I) (hQ : ∀ J, (∀ a, (a < 3 ∨ 14 < a) → J a = I a) → CTb 3 t J → Q J) : C_X7_become_3_109 e I L Q := by
  obtain ⟨n0, n1, n2, n3, n4, n7, n8, nS, nM, nR, nF, nO, nH, nL⟩ := hN
  have h9 := hk.2.2.2.2.2.1
  have hE : t 0 4 ≤ 6 := by
    obtain ⟨o0, oT, oZ, oY, oD, o9, oN, o28, oB, oX, oE, oF, oA, oH, oU, oV⟩ := hk
    exact oE
  have hA : t 0 5 ≤ 60 := by
    obtain ⟨o0, oT, oZ, oY, oD, o9, oN, o28, oB, oX, oE, oF, oA, oH, oU, oV⟩ := hk
    exact oA
  refine b_X7_become_3_109 ?_
  refine c_setN_3 (t := t) ⟨n0, n1, n2, n3, n4, n7, n8, fun k hk => ?_, fun k hk hb => ?_, fun k hk hb => ?_, fun j hj => ?_, fun j hj => ?_, fun j hj => ?_, fun i hi => ?_⟩ h9 (fun J f hC => hQ J (fun a ha => ?_) hC)
  · show va_cpy (I 110) (I 4) 0 0 64 k = _
    rw [cpy0 hk]; exact nS k hk
  · show va_cpy (I 115) (I 9) 0 0 512 k = _
    rw [cpy0 hk]; exact nM k hk hb
  · show va_cpy (I 116) (I 10) 0 0 512 k = _
    rw [cpy0 hk]; exact nR k hk hb
  · show va_cpy (I 117) (I 11) 0 0 6 j = _
    rw [cpy0 (by omega)]; exact nF j hj
  · show va_cpy (I 118) (I 12) 0 0 6 j = _
    rw [cpy0 (by omega)]; exact nO j hj
  · show va_cpy (I 119) (I 13) 0 0 6 j = _
    rw [cpy0 (by omega)]; exact nH j hj
  · show va_cpy (I 120) (I 14) 0 0 60 i = _
    rw [cpy0 (by omega)]; exact nL i hi
  · rw [f.1 a (by omega) (by omega) (by omega) (by omega) (by omega)]
    rw [up_n (by omega), up_n (by omega), up_n (by omega), up_n (by omega), up_n (by omega), up_n (by omega), up_n (by omega), up_n (by omega), up_n (by omega), up_n (by omega), up_n (by omega), up_n (by omega), up_n (by omega), up_n (by omega)]
theorem c_become_3_121 {e : am_V} {I : Nat → Nat → Int32} {L : Nat → Nat → Int64} {Q : (Nat → Nat → Int32) → Prop} {t : tw} (hk : tok t) (hN : NLb 121 t I) (hQ : ∀ J, (∀ a, (a < 3 ∨ 14 < a) → J a = I a) → CTb 3 t J → Q J) : C_X7_become_3_121 e I L Q := by
  obtain ⟨n0, n1, n2, n3, n4, n7, n8, nS, nM, nR, nF, nO, nH, nL⟩ := hN
  have h9 := hk.2.2.2.2.2.1
  have hE : t 0 4 ≤ 6 := by
    obtain ⟨o0, oT, oZ, oY, oD, o9, oN, o28, oB, oX, oE, oF, oA, oH, oU, oV⟩ := hk
    exact oE
  have hA : t 0 5 ≤ 60 := by
    obtain ⟨o0, oT, oZ, oY, oD, o9, oN, o28, oB, oX, oE, oF, oA, oH, oU, oV⟩ := hk
    exact oA
  refine b_X7_become_3_121 ?_
  refine c_setN_3 (t := t) ⟨n0, n1, n2, n3, n4, n7, n8, fun k hk => ?_, fun k hk hb => ?_, fun k hk hb => ?_, fun j hj => ?_, fun j hj => ?_, fun j hj => ?_, fun i hi => ?_⟩ h9 (fun J f hC => hQ J (fun a ha => ?_) hC)
  · show va_cpy (I 122) (I 4) 0 0 64 k = _
    rw [cpy0 hk]; exact nS k hk
  · show va_cpy (I 127) (I 9) 0 0 512 k = _
    rw [cpy0 hk]; exact nM k hk hb
  · show va_cpy (I 128) (I 10) 0 0 512 k = _
    rw [cpy0 hk]; exact nR k hk hb
  · show va_cpy (I 129) (I 11) 0 0 6 j = _
    rw [cpy0 (by omega)]; exact nF j hj
  · show va_cpy (I 130) (I 12) 0 0 6 j = _
    rw [cpy0 (by omega)]; exact nO j hj
  · show va_cpy (I 131) (I 13) 0 0 6 j = _
    rw [cpy0 (by omega)]; exact nH j hj
  · show va_cpy (I 132) (I 14) 0 0 60 i = _
    rw [cpy0 (by omega)]; exact nL i hi
  · rw [f.1 a (by omega) (by omega) (by omega) (by omega) (by omega)]
    rw [up_n (by omega), up_n (by omega), up_n (by omega), up_n (by omega), up_n (by omega), up_n (by omega), up_n (by omega), up_n (by omega), up_n (by omega), up_n (by omega), up_n (by omega), up_n (by omega), up_n (by omega), up_n (by omega)]
/-- a row's piece a copied to its piece b -/
def cpR (m a b : Nat) (f : Nat → Int32) (i : Nat) : Int32 := if m * b ≤ i ∧ i < m * b + m then f (m * a + (i - m * b)) else f i
theorem c_copyRow_79 {e : am_V} {I : Nat → Nat → Int32} {L : Nat → Nat → Int64} {Q : (Nat → Nat → Int32) → Prop} {a b : Nat} (ha : a ≤ 4) (hb : b ≤ 4) (hab : a ≠ b) (hQ : ∀ F, (∀ i, F i = cpR 1 a b (I 79) i) → Q (va_up I 79 F)) : C_X11_copyRow_79 e (nI 1) (nI a) (nI b) I L Q := by
  refine b_X11_copyRow_79 ?_
  have h0 : T_X11_copyRow_79_p3 e (nI 1) (nI a) (nI b) (nI 0) (va_up I 79 (I 79)) L Q := by
    refine lp_up (n := 1) (S := Nat → Int32) (T := fun k F => T_X11_copyRow_79_p3 e (nI 1) (nI a) (nI b) (nI k) (va_up I 79 F) L Q) (fun k F => ∀ i, F i = if 1 * b ≤ i ∧ i < 1 * b + k then I 79 (1 * a + (i - 1 * b)) else I 79 i) ?_ ?_ 0 (I 79) (Nat.zero_le _) (fun i => by rw [if_neg (by omega)])
    · intro k F hk hi hnext
      refine b_X11_copyRow_79_p3 ?_
      have hnk : (1 ≤ k) = False := eq_false (by omega)
      have e1 : F (1 * a + k) = I 79 (1 * a + k) := by rw [hi, if_neg (by omega)]
      simp (disch := omega) only [pk_mul, nI_add, ksub, kdv, kd8, kd64, kd2, kd3, km8, km64, kt8, ke8, ke64, kcl, kin, kle, klt, keq, up_s, up_n, up_u, true_and, and_true, false_implies, true_implies, not_false_eq_true, not_true_eq_false, hnk, e1]
      refine hnext _ (fun i => ?_)
      by_cases he : i = 1 * b + k
      · rw [he, up_s, if_pos (by omega), show 1 * b + k - 1 * b = k from by omega]
      · rw [up_n he, hi]
        by_cases hc : 1 * b ≤ i ∧ i < 1 * b + k
        · rw [if_pos hc, if_pos (by omega)]
        · rw [if_neg hc, if_neg (by omega)]
    · intro F hi
      refine b_X11_copyRow_79_p3 ?_
      have hnn : (1 ≤ 1) = True := eq_true (Nat.le_refl _)
      simp (disch := omega) only [pk_mul, nI_add, ksub, kdv, kd8, kd64, kd2, kd3, km8, km64, kt8, ke8, ke64, kcl, kin, kle, klt, keq, up_s, up_n, up_u, true_and, and_true, false_implies, true_implies, not_false_eq_true, not_true_eq_false, hnn]
      exact hQ F hi
  rw [up_id] at h0
  exact h0
theorem c_copyRow_80 {e : am_V} {I : Nat → Nat → Int32} {L : Nat → Nat → Int64} {Q : (Nat → Nat → Int32) → Prop} {a b : Nat} (ha : a ≤ 4) (hb : b ≤ 4) (hab : a ≠ b) (hQ : ∀ F, (∀ i, F i = cpR 5 a b (I 80) i) → Q (va_up I 80 F)) : C_X11_copyRow_80 e (nI 5) (nI a) (nI b) I L Q := by
  refine b_X11_copyRow_80 ?_
  have h0 : T_X11_copyRow_80_p3 e (nI 5) (nI a) (nI b) (nI 0) (va_up I 80 (I 80)) L Q := by
    refine lp_up (n := 5) (S := Nat → Int32) (T := fun k F => T_X11_copyRow_80_p3 e (nI 5) (nI a) (nI b) (nI k) (va_up I 80 F) L Q) (fun k F => ∀ i, F i = if 5 * b ≤ i ∧ i < 5 * b + k then I 80 (5 * a + (i - 5 * b)) else I 80 i) ?_ ?_ 0 (I 80) (Nat.zero_le _) (fun i => by rw [if_neg (by omega)])
    · intro k F hk hi hnext
      refine b_X11_copyRow_80_p3 ?_
      have hnk : (5 ≤ k) = False := eq_false (by omega)
      have e1 : F (5 * a + k) = I 80 (5 * a + k) := by rw [hi, if_neg (by omega)]
      simp (disch := omega) only [pk_mul, nI_add, ksub, kdv, kd8, kd64, kd2, kd3, km8, km64, kt8, ke8, ke64, kcl, kin, kle, klt, keq, up_s, up_n, up_u, true_and, and_true, false_implies, true_implies, not_false_eq_true, not_true_eq_false, hnk, e1]
      refine hnext _ (fun i => ?_)
      by_cases he : i = 5 * b + k
      · rw [he, up_s, if_pos (by omega), show 5 * b + k - 5 * b = k from by omega]
      · rw [up_n he, hi]
        by_cases hc : 5 * b ≤ i ∧ i < 5 * b + k
        · rw [if_pos hc, if_pos (by omega)]
        · rw [if_neg hc, if_neg (by omega)]
    · intro F hi
      refine b_X11_copyRow_80_p3 ?_
      have hnn : (5 ≤ 5) = True := eq_true (Nat.le_refl _)
      simp (disch := omega) only [pk_mul, nI_add, ksub, kdv, kd8, kd64, kd2, kd3, km8, km64, kt8, ke8, ke64, kcl, kin, kle, klt, keq, up_s, up_n, up_u, true_and, and_true, false_implies, true_implies, not_false_eq_true, not_true_eq_false, hnn]
      exact hQ F hi
  rw [up_id] at h0
  exact h0
theorem c_copyRow_81 {e : am_V} {I : Nat → Nat → Int32} {L : Nat → Nat → Int64} {Q : (Nat → Nat → Int32) → Prop} {a b : Nat} (ha : a ≤ 4) (hb : b ≤ 4) (hab : a ≠ b) (hQ : ∀ F, (∀ i, F i = cpR 64 a b (I 81) i) → Q (va_up I 81 F)) : C_X11_copyRow_81 e (nI 64) (nI a) (nI b) I L Q := by
  refine b_X11_copyRow_81 ?_
  have h0 : T_X11_copyRow_81_p3 e (nI 64) (nI a) (nI b) (nI 0) (va_up I 81 (I 81)) L Q := by
    refine lp_up (n := 64) (S := Nat → Int32) (T := fun k F => T_X11_copyRow_81_p3 e (nI 64) (nI a) (nI b) (nI k) (va_up I 81 F) L Q) (fun k F => ∀ i, F i = if 64 * b ≤ i ∧ i < 64 * b + k then I 81 (64 * a + (i - 64 * b)) else I 81 i) ?_ ?_ 0 (I 81) (Nat.zero_le _) (fun i => by rw [if_neg (by omega)])
    · intro k F hk hi hnext
      refine b_X11_copyRow_81_p3 ?_
      have hnk : (64 ≤ k) = False := eq_false (by omega)
      have e1 : F (64 * a + k) = I 81 (64 * a + k) := by rw [hi, if_neg (by omega)]
      simp (disch := omega) only [pk_mul, nI_add, ksub, kdv, kd8, kd64, kd2, kd3, km8, km64, kt8, ke8, ke64, kcl, kin, kle, klt, keq, up_s, up_n, up_u, true_and, and_true, false_implies, true_implies, not_false_eq_true, not_true_eq_false, hnk, e1]
      refine hnext _ (fun i => ?_)
      by_cases he : i = 64 * b + k
      · rw [he, up_s, if_pos (by omega), show 64 * b + k - 64 * b = k from by omega]
      · rw [up_n he, hi]
        by_cases hc : 64 * b ≤ i ∧ i < 64 * b + k
        · rw [if_pos hc, if_pos (by omega)]
        · rw [if_neg hc, if_neg (by omega)]
    · intro F hi
      refine b_X11_copyRow_81_p3 ?_
      have hnn : (64 ≤ 64) = True := eq_true (Nat.le_refl _)
      simp (disch := omega) only [pk_mul, nI_add, ksub, kdv, kd8, kd64, kd2, kd3, km8, km64, kt8, ke8, ke64, kcl, kin, kle, klt, keq, up_s, up_n, up_u, true_and, and_true, false_implies, true_implies, not_false_eq_true, not_true_eq_false, hnn]
      exact hQ F hi
  rw [up_id] at h0
  exact h0
theorem c_copyRow_82 {e : am_V} {I : Nat → Nat → Int32} {L : Nat → Nat → Int64} {Q : (Nat → Nat → Int32) → Prop} {a b : Nat} (ha : a ≤ 4) (hb : b ≤ 4) (hab : a ≠ b) (hQ : ∀ F, (∀ i, F i = cpR 512 a b (I 82) i) → Q (va_up I 82 F)) : C_X11_copyRow_82 e (nI 512) (nI a) (nI b) I L Q := by
  refine b_X11_copyRow_82 ?_
  have h0 : T_X11_copyRow_82_p3 e (nI 512) (nI a) (nI b) (nI 0) (va_up I 82 (I 82)) L Q := by
    refine lp_up (n := 512) (S := Nat → Int32) (T := fun k F => T_X11_copyRow_82_p3 e (nI 512) (nI a) (nI b) (nI k) (va_up I 82 F) L Q) (fun k F => ∀ i, F i = if 512 * b ≤ i ∧ i < 512 * b + k then I 82 (512 * a + (i - 512 * b)) else I 82 i) ?_ ?_ 0 (I 82) (Nat.zero_le _) (fun i => by rw [if_neg (by omega)])
    · intro k F hk hi hnext
      refine b_X11_copyRow_82_p3 ?_
      have hnk : (512 ≤ k) = False := eq_false (by omega)
      have e1 : F (512 * a + k) = I 82 (512 * a + k) := by rw [hi, if_neg (by omega)]
      simp (disch := omega) only [pk_mul, nI_add, ksub, kdv, kd8, kd64, kd2, kd3, km8, km64, kt8, ke8, ke64, kcl, kin, kle, klt, keq, up_s, up_n, up_u, true_and, and_true, false_implies, true_implies, not_false_eq_true, not_true_eq_false, hnk, e1]
      refine hnext _ (fun i => ?_)
      by_cases he : i = 512 * b + k
      · rw [he, up_s, if_pos (by omega), show 512 * b + k - 512 * b = k from by omega]
      · rw [up_n he, hi]
        by_cases hc : 512 * b ≤ i ∧ i < 512 * b + k
        · rw [if_pos hc, if_pos (by omega)]
        · rw [if_neg hc, if_neg (by omega)]
    · intro F hi
      refine b_X11_copyRow_82_p3 ?_
      have hnn : (512 ≤ 512) = True := eq_true (Nat.le_refl _)
      simp (disch := omega) only [pk_mul, nI_add, ksub, kdv, kd8, kd64, kd2, kd3, km8, km64, kt8, ke8, ke64, kcl, kin, kle, klt, keq, up_s, up_n, up_u, true_and, and_true, false_implies, true_implies, not_false_eq_true, not_true_eq_false, hnn]
      exact hQ F hi
  rw [up_id] at h0
  exact h0
theorem c_copyRow_83 {e : am_V} {I : Nat → Nat → Int32} {L : Nat → Nat → Int64} {Q : (Nat → Nat → Int32) → Prop} {a b : Nat} (ha : a ≤ 4) (hb : b ≤ 4) (hab : a ≠ b) (hQ : ∀ F, (∀ i, F i = cpR 512 a b (I 83) i) → Q (va_up I 83 F)) : C_X11_copyRow_83 e (nI 512) (nI a) (nI b) I L Q := by
  refine b_X11_copyRow_83 ?_
  have h0 : T_X11_copyRow_83_p3 e (nI 512) (nI a) (nI b) (nI 0) (va_up I 83 (I 83)) L Q := by
    refine lp_up (n := 512) (S := Nat → Int32) (T := fun k F => T_X11_copyRow_83_p3 e (nI 512) (nI a) (nI b) (nI k) (va_up I 83 F) L Q) (fun k F => ∀ i, F i = if 512 * b ≤ i ∧ i < 512 * b + k then I 83 (512 * a + (i - 512 * b)) else I 83 i) ?_ ?_ 0 (I 83) (Nat.zero_le _) (fun i => by rw [if_neg (by omega)])
    · intro k F hk hi hnext
      refine b_X11_copyRow_83_p3 ?_
      have hnk : (512 ≤ k) = False := eq_false (by omega)
      have e1 : F (512 * a + k) = I 83 (512 * a + k) := by rw [hi, if_neg (by omega)]
      simp (disch := omega) only [pk_mul, nI_add, ksub, kdv, kd8, kd64, kd2, kd3, km8, km64, kt8, ke8, ke64, kcl, kin, kle, klt, keq, up_s, up_n, up_u, true_and, and_true, false_implies, true_implies, not_false_eq_true, not_true_eq_false, hnk, e1]
      refine hnext _ (fun i => ?_)
      by_cases he : i = 512 * b + k
      · rw [he, up_s, if_pos (by omega), show 512 * b + k - 512 * b = k from by omega]
      · rw [up_n he, hi]
        by_cases hc : 512 * b ≤ i ∧ i < 512 * b + k
        · rw [if_pos hc, if_pos (by omega)]
        · rw [if_neg hc, if_neg (by omega)]
    · intro F hi
      refine b_X11_copyRow_83_p3 ?_
      have hnn : (512 ≤ 512) = True := eq_true (Nat.le_refl _)
      simp (disch := omega) only [pk_mul, nI_add, ksub, kdv, kd8, kd64, kd2, kd3, km8, km64, kt8, ke8, ke64, kcl, kin, kle, klt, keq, up_s, up_n, up_u, true_and, and_true, false_implies, true_implies, not_false_eq_true, not_true_eq_false, hnn]
      exact hQ F hi
  rw [up_id] at h0
  exact h0
theorem c_copyRow_84 {e : am_V} {I : Nat → Nat → Int32} {L : Nat → Nat → Int64} {Q : (Nat → Nat → Int32) → Prop} {a b : Nat} (ha : a ≤ 4) (hb : b ≤ 4) (hab : a ≠ b) (hQ : ∀ F, (∀ i, F i = cpR 18 a b (I 84) i) → Q (va_up I 84 F)) : C_X11_copyRow_84 e (nI 18) (nI a) (nI b) I L Q := by
  refine b_X11_copyRow_84 ?_
  have h0 : T_X11_copyRow_84_p3 e (nI 18) (nI a) (nI b) (nI 0) (va_up I 84 (I 84)) L Q := by
    refine lp_up (n := 18) (S := Nat → Int32) (T := fun k F => T_X11_copyRow_84_p3 e (nI 18) (nI a) (nI b) (nI k) (va_up I 84 F) L Q) (fun k F => ∀ i, F i = if 18 * b ≤ i ∧ i < 18 * b + k then I 84 (18 * a + (i - 18 * b)) else I 84 i) ?_ ?_ 0 (I 84) (Nat.zero_le _) (fun i => by rw [if_neg (by omega)])
    · intro k F hk hi hnext
      refine b_X11_copyRow_84_p3 ?_
      have hnk : (18 ≤ k) = False := eq_false (by omega)
      have e1 : F (18 * a + k) = I 84 (18 * a + k) := by rw [hi, if_neg (by omega)]
      simp (disch := omega) only [pk_mul, nI_add, ksub, kdv, kd8, kd64, kd2, kd3, km8, km64, kt8, ke8, ke64, kcl, kin, kle, klt, keq, up_s, up_n, up_u, true_and, and_true, false_implies, true_implies, not_false_eq_true, not_true_eq_false, hnk, e1]
      refine hnext _ (fun i => ?_)
      by_cases he : i = 18 * b + k
      · rw [he, up_s, if_pos (by omega), show 18 * b + k - 18 * b = k from by omega]
      · rw [up_n he, hi]
        by_cases hc : 18 * b ≤ i ∧ i < 18 * b + k
        · rw [if_pos hc, if_pos (by omega)]
        · rw [if_neg hc, if_neg (by omega)]
    · intro F hi
      refine b_X11_copyRow_84_p3 ?_
      have hnn : (18 ≤ 18) = True := eq_true (Nat.le_refl _)
      simp (disch := omega) only [pk_mul, nI_add, ksub, kdv, kd8, kd64, kd2, kd3, km8, km64, kt8, ke8, ke64, kcl, kin, kle, klt, keq, up_s, up_n, up_u, true_and, and_true, false_implies, true_implies, not_false_eq_true, not_true_eq_false, hnn]
      exact hQ F hi
  rw [up_id] at h0
  exact h0
theorem c_copyRow_85 {e : am_V} {I : Nat → Nat → Int32} {L : Nat → Nat → Int64} {Q : (Nat → Nat → Int32) → Prop} {a b : Nat} (ha : a ≤ 4) (hb : b ≤ 4) (hab : a ≠ b) (hQ : ∀ F, (∀ i, F i = cpR 120 a b (I 85) i) → Q (va_up I 85 F)) : C_X11_copyRow_85 e (nI 120) (nI a) (nI b) I L Q := by
  refine b_X11_copyRow_85 ?_
  have h0 : T_X11_copyRow_85_p3 e (nI 120) (nI a) (nI b) (nI 0) (va_up I 85 (I 85)) L Q := by
    refine lp_up (n := 120) (S := Nat → Int32) (T := fun k F => T_X11_copyRow_85_p3 e (nI 120) (nI a) (nI b) (nI k) (va_up I 85 F) L Q) (fun k F => ∀ i, F i = if 120 * b ≤ i ∧ i < 120 * b + k then I 85 (120 * a + (i - 120 * b)) else I 85 i) ?_ ?_ 0 (I 85) (Nat.zero_le _) (fun i => by rw [if_neg (by omega)])
    · intro k F hk hi hnext
      refine b_X11_copyRow_85_p3 ?_
      have hnk : (120 ≤ k) = False := eq_false (by omega)
      have e1 : F (120 * a + k) = I 85 (120 * a + k) := by rw [hi, if_neg (by omega)]
      simp (disch := omega) only [pk_mul, nI_add, ksub, kdv, kd8, kd64, kd2, kd3, km8, km64, kt8, ke8, ke64, kcl, kin, kle, klt, keq, up_s, up_n, up_u, true_and, and_true, false_implies, true_implies, not_false_eq_true, not_true_eq_false, hnk, e1]
      refine hnext _ (fun i => ?_)
      by_cases he : i = 120 * b + k
      · rw [he, up_s, if_pos (by omega), show 120 * b + k - 120 * b = k from by omega]
      · rw [up_n he, hi]
        by_cases hc : 120 * b ≤ i ∧ i < 120 * b + k
        · rw [if_pos hc, if_pos (by omega)]
        · rw [if_neg hc, if_neg (by omega)]
    · intro F hi
      refine b_X11_copyRow_85_p3 ?_
      have hnn : (120 ≤ 120) = True := eq_true (Nat.le_refl _)
      simp (disch := omega) only [pk_mul, nI_add, ksub, kdv, kd8, kd64, kd2, kd3, km8, km64, kt8, ke8, ke64, kcl, kin, kle, klt, keq, up_s, up_n, up_u, true_and, and_true, false_implies, true_implies, not_false_eq_true, not_true_eq_false, hnn]
      exact hQ F hi
  rw [up_id] at h0
  exact h0
/-- the seven rows copied -/
def cpW (a b : Nat) (I J : Nat → Nat → Int32) : Prop := (∀ r, (r < 79 ∨ 85 < r) → J r = I r) ∧ (∀ i, J 79 i = cpR 1 a b (I 79) i) ∧ (∀ i, J 80 i = cpR 5 a b (I 80) i) ∧ (∀ i, J 81 i = cpR 64 a b (I 81) i) ∧ (∀ i, J 82 i = cpR 512 a b (I 82) i) ∧ (∀ i, J 83 i = cpR 512 a b (I 83) i) ∧ (∀ i, J 84 i = cpR 18 a b (I 84) i) ∧ (∀ i, J 85 i = cpR 120 a b (I 85) i)
theorem c_copyTown {e : am_V} {I : Nat → Nat → Int32} {L : Nat → Nat → Int64} {Q : (Nat → Nat → Int32) → Prop} {a b : Nat} (ha : a ≤ 4) (hb : b ≤ 4) (hab : a ≠ b) (hQ : ∀ J, cpW a b I J → Q J) : C_X11_copyRow_79 e (nI 1) (nI a) (nI b) I L (fun I2 => C_X11_copyRow_80 e (nI 5) (nI a) (nI b) I2 L (fun I5 => C_X11_copyRow_81 e (nI 64) (nI a) (nI b) I5 L (fun I8 => C_X11_copyRow_82 e (nI 512) (nI a) (nI b) I8 L (fun I11 => C_X11_copyRow_83 e (nI 512) (nI a) (nI b) I11 L (fun I14 => C_X11_copyRow_84 e (nI 18) (nI a) (nI b) I14 L (fun I17 => C_X11_copyRow_85 e (nI 120) (nI a) (nI b) I17 L Q)))))) := by
  refine c_copyRow_79 ha hb hab (fun F1 h1 => ?_)
  refine c_copyRow_80 ha hb hab (fun F2 h2 => ?_)
  refine c_copyRow_81 ha hb hab (fun F3 h3 => ?_)
  refine c_copyRow_82 ha hb hab (fun F4 h4 => ?_)
  refine c_copyRow_83 ha hb hab (fun F5 h5 => ?_)
  refine c_copyRow_84 ha hb hab (fun F6 h6 => ?_)
  refine c_copyRow_85 ha hb hab (fun F7 h7 => ?_)
  exact hQ _ ⟨fun r hr => by rw [up_n (by omega), up_n (by omega), up_n (by omega), up_n (by omega), up_n (by omega), up_n (by omega), up_n (by omega)], h1, h2, h3, h4, h5, h6, h7⟩
theorem cpR_b {m a b : Nat} {f : Nat → Int32} {k : Nat} (hk : k < m) : cpR m a b f (m * b + k) = f (m * a + k) := by
  unfold cpR
  rw [if_pos (by omega), show m * b + k - m * b = k from by omega]
theorem cpR_o {m a b : Nat} {f : Nat → Int32} {i : Nat} (h : i < m * b ∨ m * b + m ≤ i) : cpR m a b f i = f i := by
  unfold cpR
  rw [if_neg (by omega)]
theorem cpW_b {a b : Nat} {t : tw} {I J : Nat → Nat → Int32} (h : cpW a b I J) (hk : tok t) (hM : MTw a t I) : MTw b t J := by
  obtain ⟨h0, h1, h2, h3, h4, h5, h6, h7⟩ := h
  have hE : t 0 4 ≤ 6 := by
    obtain ⟨o0, oT, oZ, oY, oD, o9, oN, o28, oB, oX, oE, oF, oA, oH, oU, oV⟩ := hk
    exact oE
  have hA : t 0 5 ≤ 60 := by
    obtain ⟨o0, oT, oZ, oY, oD, o9, oN, o28, oB, oX, oE, oF, oA, oH, oU, oV⟩ := hk
    exact oA
  obtain ⟨a1, a2, a3, a4, a5, a6, a7, a8, a9, b1, b2, b3, b4, b5⟩ := hM
  refine ⟨?_, ?_, ?_, ?_, ?_, ?_, fun k hk => ?_, fun k hk => ?_, fun k hk => ?_, fun j hj => ?_, fun j hj => ?_, fun j hj => ?_, fun i hi => ?_, fun i hi => ?_⟩
  · have := cpR_b (m := 1) (a := a) (b := b) (f := I 79) (k := 0) (by decide)
    rw [h1]
    rw [Nat.one_mul, Nat.add_zero, Nat.one_mul, Nat.add_zero] at this
    rw [this]; exact a1
  · have := cpR_b (m := 5) (a := a) (b := b) (f := I 80) (k := 0) (by decide)
    rw [h2]
    rw [Nat.add_zero, Nat.add_zero] at this
    rw [this]; exact a2
  · rw [h2, cpR_b (by decide)]; exact a3
  · rw [h2, cpR_b (by decide)]; exact a4
  · rw [h2, cpR_b (by decide)]; exact a5
  · rw [h2, cpR_b (by decide)]; exact a6
  · rw [h3, cpR_b hk]; exact a7 k hk
  · rw [h4, cpR_b hk]; exact a8 k hk
  · rw [h5, cpR_b hk]; exact a9 k hk
  · rw [h6, cpR_b (by omega)]; exact b1 j hj
  · rw [h6, cpR_b (by omega)]; exact b2 j hj
  · rw [h6, cpR_b (by omega)]; exact b3 j hj
  · rw [h7, cpR_b (by omega)]; exact b4 i hi
  · rw [h7, cpR_b (by omega)]; exact b5 i hi
theorem cpW_o {a b w : Nat} {t : tw} {I J : Nat → Nat → Int32} (h : cpW a b I J) (hk : tok t) (hw : w ≠ b) (hM : MTw w t I) : MTw w t J := by
  obtain ⟨h0, h1, h2, h3, h4, h5, h6, h7⟩ := h
  have hE : t 0 4 ≤ 6 := by
    obtain ⟨o0, oT, oZ, oY, oD, o9, oN, o28, oB, oX, oE, oF, oA, oH, oU, oV⟩ := hk
    exact oE
  have hA : t 0 5 ≤ 60 := by
    obtain ⟨o0, oT, oZ, oY, oD, o9, oN, o28, oB, oX, oE, oF, oA, oH, oU, oV⟩ := hk
    exact oA
  obtain ⟨a1, a2, a3, a4, a5, a6, a7, a8, a9, b1, b2, b3, b4, b5⟩ := hM
  refine ⟨?_, ?_, ?_, ?_, ?_, ?_, fun k hk => ?_, fun k hk => ?_, fun k hk => ?_, fun j hj => ?_, fun j hj => ?_, fun j hj => ?_, fun i hi => ?_, fun i hi => ?_⟩
  · rw [h1, cpR_o (by omega)]; exact a1
  · rw [h2, cpR_o (by omega)]; exact a2
  · rw [h2, cpR_o (by omega)]; exact a3
  · rw [h2, cpR_o (by omega)]; exact a4
  · rw [h2, cpR_o (by omega)]; exact a5
  · rw [h2, cpR_o (by omega)]; exact a6
  · rw [h3, cpR_o (by omega)]; exact a7 k hk
  · rw [h4, cpR_o (by omega)]; exact a8 k hk
  · rw [h5, cpR_o (by omega)]; exact a9 k hk
  · rw [h6, cpR_o (by omega)]; exact b1 j hj
  · rw [h6, cpR_o (by omega)]; exact b2 j hj
  · rw [h6, cpR_o (by omega)]; exact b3 j hj
  · rw [h7, cpR_o (by omega)]; exact b4 i hi
  · rw [h7, cpR_o (by omega)]; exact b5 i hi
