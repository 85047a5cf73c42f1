/-! keep, back: a town made as an image -/
theorem am_C_b {P : Nat → am_MI} {d mi cb sb cb' sb' : Nat} {as : List Value} {σ : am_S} {Post : Option Value → am_S → Prop} (h : am_C P d mi as σ cb sb Post) (hc : cb ≤ cb') (hs : sb ≤ sb') : am_C P d mi as σ cb' sb' Post := by
  intro G p l e R s mm args below meth c H locs cells slots Q ls C h1 h2 h3 h4 h5 h6 h7 h8 h9 hr
  exact h G p l e R s mm args below meth c H locs cells slots Q ls C h1 h2 (by omega) (by omega) h5 h6 h7 h8 h9 hr
theorem am_C_eq {P : Nat → am_MI} {d mi cb sb : Nat} {as : List Value} {σ σ' : am_S} {Post : Option Value → am_S → Prop} (h : σ = σ') (hC : am_C P d mi as σ' cb sb Post) : am_C P d mi as σ cb sb Post := by rw [h]; exact hC
/-- one more, where numbers and the order of making are one -/
def am_nw (σ : am_S) : am_S := (va_up σ.1 σ.2.2.2 (fun _ => 0), va_up σ.2.1 σ.2.2.2 (fun _ => 0), va_up σ.2.2.1 σ.2.2.2 (fun _ => none), σ.2.2.2 + 1)
def mkA (b k : Nat) (σ : am_S) : am_S := am_sR (am_nw σ) b (va_up (am_R (am_nw σ) b) k (some (am_n σ)))
def mkT (b : Nat) (σ : am_S) : am_S := mkA b 19 (mkA b 18 (mkA b 17 (mkA b 16 (mkA b 15 (mkA b 14 (mkA b 13 (mkA b 12 (mkA b 11 (mkA b 10 (mkA b 9 (am_nw σ)))))))))))
def mkI (b k : Nat) (σ : am_S) : am_S := am_sR (mkT b σ) 27 (va_up (am_R (mkT b σ) 27) k (some b))
/-- twelve rows, all 0 -/
def zrm {α : Type} (z : Nat → α) (b m : Nat) (I : Nat → Nat → α) (a : Nat) : Nat → α := if b ≤ a ∧ a < b + m then z else I a
theorem zrm_s {α : Type} {z : Nat → α} {b m c : Nat} {I : Nat → Nat → α} (hc : c = b + m) : va_up (zrm z b m I) c z = zrm z b (m + 1) I := by
  funext a
  unfold zrm
  by_cases h : a = c
  · rw [h, up_s, if_pos (by omega)]
  · rw [up_n h]
    by_cases h2 : b ≤ a ∧ a < b + m
    · rw [if_pos h2, if_pos (by omega)]
    · rw [if_neg h2, if_neg (by omega)]
theorem zrm_0 {α : Type} {z : Nat → α} {b : Nat} {I : Nat → Nat → α} : zrm z b 0 I = I := by
  funext a
  unfold zrm
  rw [if_neg (by omega)]
theorem zrI97 {X : Nat → Nat → Int32} : (va_up (va_up (va_up (va_up (va_up (va_up (va_up (va_up (va_up (va_up (va_up (va_up X 97 (fun _ => (0 : Int32))) 98 (fun _ => (0 : Int32))) 99 (fun _ => (0 : Int32))) 100 (fun _ => (0 : Int32))) 101 (fun _ => (0 : Int32))) 102 (fun _ => (0 : Int32))) 103 (fun _ => (0 : Int32))) 104 (fun _ => (0 : Int32))) 105 (fun _ => (0 : Int32))) 106 (fun _ => (0 : Int32))) 107 (fun _ => (0 : Int32))) 108 (fun _ => (0 : Int32))) = zrm (fun _ => (0 : Int32)) 97 12 X := by
  have h : zrm (fun _ => (0 : Int32)) 97 0 X = X := zrm_0
  rw [← h, zrm_s (m := 0) (by decide), zrm_s (m := 1) (by decide), zrm_s (m := 2) (by decide), zrm_s (m := 3) (by decide), zrm_s (m := 4) (by decide), zrm_s (m := 5) (by decide), zrm_s (m := 6) (by decide), zrm_s (m := 7) (by decide), zrm_s (m := 8) (by decide), zrm_s (m := 9) (by decide), zrm_s (m := 10) (by decide), zrm_s (m := 11) (by decide)]
  rw [h]
theorem zrL97 {X : Nat → Nat → Int64} : (va_up (va_up (va_up (va_up (va_up (va_up (va_up (va_up (va_up (va_up (va_up (va_up X 97 (fun _ => (0 : Int64))) 98 (fun _ => (0 : Int64))) 99 (fun _ => (0 : Int64))) 100 (fun _ => (0 : Int64))) 101 (fun _ => (0 : Int64))) 102 (fun _ => (0 : Int64))) 103 (fun _ => (0 : Int64))) 104 (fun _ => (0 : Int64))) 105 (fun _ => (0 : Int64))) 106 (fun _ => (0 : Int64))) 107 (fun _ => (0 : Int64))) 108 (fun _ => (0 : Int64))) = zrm (fun _ => (0 : Int64)) 97 12 X := by
  have h : zrm (fun _ => (0 : Int64)) 97 0 X = X := zrm_0
  rw [← h, zrm_s (m := 0) (by decide), zrm_s (m := 1) (by decide), zrm_s (m := 2) (by decide), zrm_s (m := 3) (by decide), zrm_s (m := 4) (by decide), zrm_s (m := 5) (by decide), zrm_s (m := 6) (by decide), zrm_s (m := 7) (by decide), zrm_s (m := 8) (by decide), zrm_s (m := 9) (by decide), zrm_s (m := 10) (by decide), zrm_s (m := 11) (by decide)]
  rw [h]
theorem zrI109 {X : Nat → Nat → Int32} : (va_up (va_up (va_up (va_up (va_up (va_up (va_up (va_up (va_up (va_up (va_up (va_up X 109 (fun _ => (0 : Int32))) 110 (fun _ => (0 : Int32))) 111 (fun _ => (0 : Int32))) 112 (fun _ => (0 : Int32))) 113 (fun _ => (0 : Int32))) 114 (fun _ => (0 : Int32))) 115 (fun _ => (0 : Int32))) 116 (fun _ => (0 : Int32))) 117 (fun _ => (0 : Int32))) 118 (fun _ => (0 : Int32))) 119 (fun _ => (0 : Int32))) 120 (fun _ => (0 : Int32))) = zrm (fun _ => (0 : Int32)) 109 12 X := by
  have h : zrm (fun _ => (0 : Int32)) 109 0 X = X := zrm_0
  rw [← h, zrm_s (m := 0) (by decide), zrm_s (m := 1) (by decide), zrm_s (m := 2) (by decide), zrm_s (m := 3) (by decide), zrm_s (m := 4) (by decide), zrm_s (m := 5) (by decide), zrm_s (m := 6) (by decide), zrm_s (m := 7) (by decide), zrm_s (m := 8) (by decide), zrm_s (m := 9) (by decide), zrm_s (m := 10) (by decide), zrm_s (m := 11) (by decide)]
  rw [h]
theorem zrL109 {X : Nat → Nat → Int64} : (va_up (va_up (va_up (va_up (va_up (va_up (va_up (va_up (va_up (va_up (va_up (va_up X 109 (fun _ => (0 : Int64))) 110 (fun _ => (0 : Int64))) 111 (fun _ => (0 : Int64))) 112 (fun _ => (0 : Int64))) 113 (fun _ => (0 : Int64))) 114 (fun _ => (0 : Int64))) 115 (fun _ => (0 : Int64))) 116 (fun _ => (0 : Int64))) 117 (fun _ => (0 : Int64))) 118 (fun _ => (0 : Int64))) 119 (fun _ => (0 : Int64))) 120 (fun _ => (0 : Int64))) = zrm (fun _ => (0 : Int64)) 109 12 X := by
  have h : zrm (fun _ => (0 : Int64)) 109 0 X = X := zrm_0
  rw [← h, zrm_s (m := 0) (by decide), zrm_s (m := 1) (by decide), zrm_s (m := 2) (by decide), zrm_s (m := 3) (by decide), zrm_s (m := 4) (by decide), zrm_s (m := 5) (by decide), zrm_s (m := 6) (by decide), zrm_s (m := 7) (by decide), zrm_s (m := 8) (by decide), zrm_s (m := 9) (by decide), zrm_s (m := 10) (by decide), zrm_s (m := 11) (by decide)]
  rw [h]
theorem zrI121 {X : Nat → Nat → Int32} : (va_up (va_up (va_up (va_up (va_up (va_up (va_up (va_up (va_up (va_up (va_up (va_up X 121 (fun _ => (0 : Int32))) 122 (fun _ => (0 : Int32))) 123 (fun _ => (0 : Int32))) 124 (fun _ => (0 : Int32))) 125 (fun _ => (0 : Int32))) 126 (fun _ => (0 : Int32))) 127 (fun _ => (0 : Int32))) 128 (fun _ => (0 : Int32))) 129 (fun _ => (0 : Int32))) 130 (fun _ => (0 : Int32))) 131 (fun _ => (0 : Int32))) 132 (fun _ => (0 : Int32))) = zrm (fun _ => (0 : Int32)) 121 12 X := by
  have h : zrm (fun _ => (0 : Int32)) 121 0 X = X := zrm_0
  rw [← h, zrm_s (m := 0) (by decide), zrm_s (m := 1) (by decide), zrm_s (m := 2) (by decide), zrm_s (m := 3) (by decide), zrm_s (m := 4) (by decide), zrm_s (m := 5) (by decide), zrm_s (m := 6) (by decide), zrm_s (m := 7) (by decide), zrm_s (m := 8) (by decide), zrm_s (m := 9) (by decide), zrm_s (m := 10) (by decide), zrm_s (m := 11) (by decide)]
  rw [h]
theorem zrL121 {X : Nat → Nat → Int64} : (va_up (va_up (va_up (va_up (va_up (va_up (va_up (va_up (va_up (va_up (va_up (va_up X 121 (fun _ => (0 : Int64))) 122 (fun _ => (0 : Int64))) 123 (fun _ => (0 : Int64))) 124 (fun _ => (0 : Int64))) 125 (fun _ => (0 : Int64))) 126 (fun _ => (0 : Int64))) 127 (fun _ => (0 : Int64))) 128 (fun _ => (0 : Int64))) 129 (fun _ => (0 : Int64))) 130 (fun _ => (0 : Int64))) 131 (fun _ => (0 : Int64))) 132 (fun _ => (0 : Int64))) = zrm (fun _ => (0 : Int64)) 121 12 X := by
  have h : zrm (fun _ => (0 : Int64)) 121 0 X = X := zrm_0
  rw [← h, zrm_s (m := 0) (by decide), zrm_s (m := 1) (by decide), zrm_s (m := 2) (by decide), zrm_s (m := 3) (by decide), zrm_s (m := 4) (by decide), zrm_s (m := 5) (by decide), zrm_s (m := 6) (by decide), zrm_s (m := 7) (by decide), zrm_s (m := 8) (by decide), zrm_s (m := 9) (by decide), zrm_s (m := 10) (by decide), zrm_s (m := 11) (by decide)]
  rw [h]
theorem kp_eq_0_97 {o1 o2 : Option Nat} {sl : Nat} {I : Nat → Nat → Int32} {L : Nat → Nat → Int64} : mkI 97 0 (am_st ((none, o1, o2), sl, 97) I L) = am_st ((some 97, o1, o2), sl, 109) (zrm (fun _ => (0 : Int32)) 97 12 I) (zrm (fun _ => (0 : Int64)) 97 12 L) := by
  have hR : (mkI 97 0 (am_st ((none, o1, o2), sl, 97) I L)).2.2.1 = am_r1 (am_im ((some 97, o1, o2), sl, 109).1) sl := by
    funext a
    by_cases h27 : a = 27
    · subst h27
      funext j
      match j with
      | 0 => rfl
      | 1 => rfl
      | 2 => rfl
      | j + 3 => rfl
    by_cases h97 : a = 97
    · subst h97
      funext j
      match j with
      | 0 => rfl
      | 1 => rfl
      | 2 => rfl
      | 3 => rfl
      | 4 => rfl
      | 5 => rfl
      | 6 => rfl
      | 7 => rfl
      | 8 => rfl
      | 9 => rfl
      | 10 => rfl
      | 11 => rfl
      | 12 => rfl
      | 13 => rfl
      | 14 => rfl
      | 15 => rfl
      | 16 => rfl
      | 17 => rfl
      | 18 => rfl
      | 19 => rfl
      | j + 20 => rfl
    by_cases h98 : a = 98
    · subst h98
      funext j
      rfl
    by_cases h99 : a = 99
    · subst h99
      funext j
      rfl
    by_cases h100 : a = 100
    · subst h100
      funext j
      rfl
    by_cases h101 : a = 101
    · subst h101
      funext j
      rfl
    by_cases h102 : a = 102
    · subst h102
      funext j
      rfl
    by_cases h103 : a = 103
    · subst h103
      funext j
      rfl
    by_cases h104 : a = 104
    · subst h104
      funext j
      rfl
    by_cases h105 : a = 105
    · subst h105
      funext j
      rfl
    by_cases h106 : a = 106
    · subst h106
      funext j
      rfl
    by_cases h107 : a = 107
    · subst h107
      funext j
      rfl
    by_cases h108 : a = 108
    · subst h108
      funext j
      rfl
    simp only [mkI, mkT, mkA, am_sR, am_nw, am_R, am_n, am_st, va_up, h27, h97, h98, h99, h100, h101, h102, h103, h104, h105, h106, h107, h108, if_false]
    unfold am_r1
    rw [show Nat.beq a 27 = false from by
      cases hb : Nat.beq a 27 with
      | false => rfl
      | true => exact absurd (Nat.eq_of_beq_eq_true hb) h27]
  have hI : (mkI 97 0 (am_st ((none, o1, o2), sl, 97) I L)).1 = zrm (fun _ => (0 : Int32)) 97 12 I := zrI97
  have hL : (mkI 97 0 (am_st ((none, o1, o2), sl, 97) I L)).2.1 = zrm (fun _ => (0 : Int64)) 97 12 L := zrL97
  show ((mkI 97 0 (am_st ((none, o1, o2), sl, 97) I L)).1, (mkI 97 0 (am_st ((none, o1, o2), sl, 97) I L)).2.1, (mkI 97 0 (am_st ((none, o1, o2), sl, 97) I L)).2.2.1, (109 : Nat)) = _
  rw [hR, hI, hL]
  rfl
theorem kp_eq_0_109 {o1 o2 : Option Nat} {sl : Nat} {I : Nat → Nat → Int32} {L : Nat → Nat → Int64} : mkI 109 0 (am_st ((none, o1, o2), sl, 109) I L) = am_st ((some 109, o1, o2), sl, 121) (zrm (fun _ => (0 : Int32)) 109 12 I) (zrm (fun _ => (0 : Int64)) 109 12 L) := by
  have hR : (mkI 109 0 (am_st ((none, o1, o2), sl, 109) I L)).2.2.1 = am_r1 (am_im ((some 109, o1, o2), sl, 121).1) sl := by
    funext a
    by_cases h27 : a = 27
    · subst h27
      funext j
      match j with
      | 0 => rfl
      | 1 => rfl
      | 2 => rfl
      | j + 3 => rfl
    by_cases h109 : a = 109
    · subst h109
      funext j
      match j with
      | 0 => rfl
      | 1 => rfl
      | 2 => rfl
      | 3 => rfl
      | 4 => rfl
      | 5 => rfl
      | 6 => rfl
      | 7 => rfl
      | 8 => rfl
      | 9 => rfl
      | 10 => rfl
      | 11 => rfl
      | 12 => rfl
      | 13 => rfl
      | 14 => rfl
      | 15 => rfl
      | 16 => rfl
      | 17 => rfl
      | 18 => rfl
      | 19 => rfl
      | j + 20 => rfl
    by_cases h110 : a = 110
    · subst h110
      funext j
      rfl
    by_cases h111 : a = 111
    · subst h111
      funext j
      rfl
    by_cases h112 : a = 112
    · subst h112
      funext j
      rfl
    by_cases h113 : a = 113
    · subst h113
      funext j
      rfl
    by_cases h114 : a = 114
    · subst h114
      funext j
      rfl
    by_cases h115 : a = 115
    · subst h115
      funext j
      rfl
    by_cases h116 : a = 116
    · subst h116
      funext j
      rfl
    by_cases h117 : a = 117
    · subst h117
      funext j
      rfl
    by_cases h118 : a = 118
    · subst h118
      funext j
      rfl
    by_cases h119 : a = 119
    · subst h119
      funext j
      rfl
    by_cases h120 : a = 120
    · subst h120
      funext j
      rfl
    simp only [mkI, mkT, mkA, am_sR, am_nw, am_R, am_n, am_st, va_up, h27, h109, h110, h111, h112, h113, h114, h115, h116, h117, h118, h119, h120, if_false]
    unfold am_r1
    rw [show Nat.beq a 27 = false from by
      cases hb : Nat.beq a 27 with
      | false => rfl
      | true => exact absurd (Nat.eq_of_beq_eq_true hb) h27]
  have hI : (mkI 109 0 (am_st ((none, o1, o2), sl, 109) I L)).1 = zrm (fun _ => (0 : Int32)) 109 12 I := zrI109
  have hL : (mkI 109 0 (am_st ((none, o1, o2), sl, 109) I L)).2.1 = zrm (fun _ => (0 : Int64)) 109 12 L := zrL109
  show ((mkI 109 0 (am_st ((none, o1, o2), sl, 109) I L)).1, (mkI 109 0 (am_st ((none, o1, o2), sl, 109) I L)).2.1, (mkI 109 0 (am_st ((none, o1, o2), sl, 109) I L)).2.2.1, (121 : Nat)) = _
  rw [hR, hI, hL]
  rfl
theorem kp_eq_0_121 {o1 o2 : Option Nat} {sl : Nat} {I : Nat → Nat → Int32} {L : Nat → Nat → Int64} : mkI 121 0 (am_st ((none, o1, o2), sl, 121) I L) = am_st ((some 121, o1, o2), sl, 133) (zrm (fun _ => (0 : Int32)) 121 12 I) (zrm (fun _ => (0 : Int64)) 121 12 L) := by
  have hR : (mkI 121 0 (am_st ((none, o1, o2), sl, 121) I L)).2.2.1 = am_r1 (am_im ((some 121, o1, o2), sl, 133).1) sl := by
    funext a
    by_cases h27 : a = 27
    · subst h27
      funext j
      match j with
      | 0 => rfl
      | 1 => rfl
      | 2 => rfl
      | j + 3 => rfl
    by_cases h121 : a = 121
    · subst h121
      funext j
      match j with
      | 0 => rfl
      | 1 => rfl
      | 2 => rfl
      | 3 => rfl
      | 4 => rfl
      | 5 => rfl
      | 6 => rfl
      | 7 => rfl
      | 8 => rfl
      | 9 => rfl
      | 10 => rfl
      | 11 => rfl
      | 12 => rfl
      | 13 => rfl
      | 14 => rfl
      | 15 => rfl
      | 16 => rfl
      | 17 => rfl
      | 18 => rfl
      | 19 => rfl
      | j + 20 => rfl
    by_cases h122 : a = 122
    · subst h122
      funext j
      rfl
    by_cases h123 : a = 123
    · subst h123
      funext j
      rfl
    by_cases h124 : a = 124
    · subst h124
      funext j
      rfl
    by_cases h125 : a = 125
    · subst h125
      funext j
      rfl
    by_cases h126 : a = 126
    · subst h126
      funext j
      rfl
    by_cases h127 : a = 127
    · subst h127
      funext j
      rfl
    by_cases h128 : a = 128
    · subst h128
      funext j
      rfl
    by_cases h129 : a = 129
    · subst h129
      funext j
      rfl
    by_cases h130 : a = 130
    · subst h130
      funext j
      rfl
    by_cases h131 : a = 131
    · subst h131
      funext j
      rfl
    by_cases h132 : a = 132
    · subst h132
      funext j
      rfl
    simp only [mkI, mkT, mkA, am_sR, am_nw, am_R, am_n, am_st, va_up, h27, h121, h122, h123, h124, h125, h126, h127, h128, h129, h130, h131, h132, if_false]
    unfold am_r1
    rw [show Nat.beq a 27 = false from by
      cases hb : Nat.beq a 27 with
      | false => rfl
      | true => exact absurd (Nat.eq_of_beq_eq_true hb) h27]
  have hI : (mkI 121 0 (am_st ((none, o1, o2), sl, 121) I L)).1 = zrm (fun _ => (0 : Int32)) 121 12 I := zrI121
  have hL : (mkI 121 0 (am_st ((none, o1, o2), sl, 121) I L)).2.1 = zrm (fun _ => (0 : Int64)) 121 12 L := zrL121
  show ((mkI 121 0 (am_st ((none, o1, o2), sl, 121) I L)).1, (mkI 121 0 (am_st ((none, o1, o2), sl, 121) I L)).2.1, (mkI 121 0 (am_st ((none, o1, o2), sl, 121) I L)).2.2.1, (133 : Nat)) = _
  rw [hR, hI, hL]
  rfl
theorem kp_eq_1_97 {o0 o2 : Option Nat} {sl : Nat} {I : Nat → Nat → Int32} {L : Nat → Nat → Int64} : mkI 97 1 (am_st ((o0, none, o2), sl, 97) I L) = am_st ((o0, some 97, o2), sl, 109) (zrm (fun _ => (0 : Int32)) 97 12 I) (zrm (fun _ => (0 : Int64)) 97 12 L) := by
  have hR : (mkI 97 1 (am_st ((o0, none, o2), sl, 97) I L)).2.2.1 = am_r1 (am_im ((o0, some 97, o2), sl, 109).1) sl := by
    funext a
    by_cases h27 : a = 27
    · subst h27
      funext j
      match j with
      | 0 => rfl
      | 1 => rfl
      | 2 => rfl
      | j + 3 => rfl
    by_cases h97 : a = 97
    · subst h97
      funext j
      match j with
      | 0 => rfl
      | 1 => rfl
      | 2 => rfl
      | 3 => rfl
      | 4 => rfl
      | 5 => rfl
      | 6 => rfl
      | 7 => rfl
      | 8 => rfl
      | 9 => rfl
      | 10 => rfl
      | 11 => rfl
      | 12 => rfl
      | 13 => rfl
      | 14 => rfl
      | 15 => rfl
      | 16 => rfl
      | 17 => rfl
      | 18 => rfl
      | 19 => rfl
      | j + 20 => rfl
    by_cases h98 : a = 98
    · subst h98
      funext j
      rfl
    by_cases h99 : a = 99
    · subst h99
      funext j
      rfl
    by_cases h100 : a = 100
    · subst h100
      funext j
      rfl
    by_cases h101 : a = 101
    · subst h101
      funext j
      rfl
    by_cases h102 : a = 102
    · subst h102
      funext j
      rfl
    by_cases h103 : a = 103
    · subst h103
      funext j
      rfl
    by_cases h104 : a = 104
    · subst h104
      funext j
      rfl
    by_cases h105 : a = 105
    · subst h105
      funext j
      rfl
    by_cases h106 : a = 106
    · subst h106
      funext j
      rfl
    by_cases h107 : a = 107
    · subst h107
      funext j
      rfl
    by_cases h108 : a = 108
    · subst h108
      funext j
      rfl
    simp only [mkI, mkT, mkA, am_sR, am_nw, am_R, am_n, am_st, va_up, h27, h97, h98, h99, h100, h101, h102, h103, h104, h105, h106, h107, h108, if_false]
    unfold am_r1
    rw [show Nat.beq a 27 = false from by
      cases hb : Nat.beq a 27 with
      | false => rfl
      | true => exact absurd (Nat.eq_of_beq_eq_true hb) h27]
  have hI : (mkI 97 1 (am_st ((o0, none, o2), sl, 97) I L)).1 = zrm (fun _ => (0 : Int32)) 97 12 I := zrI97
  have hL : (mkI 97 1 (am_st ((o0, none, o2), sl, 97) I L)).2.1 = zrm (fun _ => (0 : Int64)) 97 12 L := zrL97
  show ((mkI 97 1 (am_st ((o0, none, o2), sl, 97) I L)).1, (mkI 97 1 (am_st ((o0, none, o2), sl, 97) I L)).2.1, (mkI 97 1 (am_st ((o0, none, o2), sl, 97) I L)).2.2.1, (109 : Nat)) = _
  rw [hR, hI, hL]
  rfl
theorem kp_eq_1_109 {o0 o2 : Option Nat} {sl : Nat} {I : Nat → Nat → Int32} {L : Nat → Nat → Int64} : mkI 109 1 (am_st ((o0, none, o2), sl, 109) I L) = am_st ((o0, some 109, o2), sl, 121) (zrm (fun _ => (0 : Int32)) 109 12 I) (zrm (fun _ => (0 : Int64)) 109 12 L) := by
  have hR : (mkI 109 1 (am_st ((o0, none, o2), sl, 109) I L)).2.2.1 = am_r1 (am_im ((o0, some 109, o2), sl, 121).1) sl := by
    funext a
    by_cases h27 : a = 27
    · subst h27
      funext j
      match j with
      | 0 => rfl
      | 1 => rfl
      | 2 => rfl
      | j + 3 => rfl
    by_cases h109 : a = 109
    · subst h109
      funext j
      match j with
      | 0 => rfl
      | 1 => rfl
      | 2 => rfl
      | 3 => rfl
      | 4 => rfl
      | 5 => rfl
      | 6 => rfl
      | 7 => rfl
      | 8 => rfl
      | 9 => rfl
      | 10 => rfl
      | 11 => rfl
      | 12 => rfl
      | 13 => rfl
      | 14 => rfl
      | 15 => rfl
      | 16 => rfl
      | 17 => rfl
      | 18 => rfl
      | 19 => rfl
      | j + 20 => rfl
    by_cases h110 : a = 110
    · subst h110
      funext j
      rfl
    by_cases h111 : a = 111
    · subst h111
      funext j
      rfl
    by_cases h112 : a = 112
    · subst h112
      funext j
      rfl
    by_cases h113 : a = 113
    · subst h113
      funext j
      rfl
    by_cases h114 : a = 114
    · subst h114
      funext j
      rfl
    by_cases h115 : a = 115
    · subst h115
      funext j
      rfl
    by_cases h116 : a = 116
    · subst h116
      funext j
      rfl
    by_cases h117 : a = 117
    · subst h117
      funext j
      rfl
    by_cases h118 : a = 118
    · subst h118
      funext j
      rfl
    by_cases h119 : a = 119
    · subst h119
      funext j
      rfl
    by_cases h120 : a = 120
    · subst h120
      funext j
      rfl
    simp only [mkI, mkT, mkA, am_sR, am_nw, am_R, am_n, am_st, va_up, h27, h109, h110, h111, h112, h113, h114, h115, h116, h117, h118, h119, h120, if_false]
    unfold am_r1
    rw [show Nat.beq a 27 = false from by
      cases hb : Nat.beq a 27 with
      | false => rfl
      | true => exact absurd (Nat.eq_of_beq_eq_true hb) h27]
  have hI : (mkI 109 1 (am_st ((o0, none, o2), sl, 109) I L)).1 = zrm (fun _ => (0 : Int32)) 109 12 I := zrI109
  have hL : (mkI 109 1 (am_st ((o0, none, o2), sl, 109) I L)).2.1 = zrm (fun _ => (0 : Int64)) 109 12 L := zrL109
  show ((mkI 109 1 (am_st ((o0, none, o2), sl, 109) I L)).1, (mkI 109 1 (am_st ((o0, none, o2), sl, 109) I L)).2.1, (mkI 109 1 (am_st ((o0, none, o2), sl, 109) I L)).2.2.1, (121 : Nat)) = _
  rw [hR, hI, hL]
  rfl
theorem kp_eq_1_121 {o0 o2 : Option Nat} {sl : Nat} {I : Nat → Nat → Int32} {L : Nat → Nat → Int64} : mkI 121 1 (am_st ((o0, none, o2), sl, 121) I L) = am_st ((o0, some 121, o2), sl, 133) (zrm (fun _ => (0 : Int32)) 121 12 I) (zrm (fun _ => (0 : Int64)) 121 12 L) := by
  have hR : (mkI 121 1 (am_st ((o0, none, o2), sl, 121) I L)).2.2.1 = am_r1 (am_im ((o0, some 121, o2), sl, 133).1) sl := by
    funext a
    by_cases h27 : a = 27
    · subst h27
      funext j
      match j with
      | 0 => rfl
      | 1 => rfl
      | 2 => rfl
      | j + 3 => rfl
    by_cases h121 : a = 121
    · subst h121
      funext j
      match j with
      | 0 => rfl
      | 1 => rfl
      | 2 => rfl
      | 3 => rfl
      | 4 => rfl
      | 5 => rfl
      | 6 => rfl
      | 7 => rfl
      | 8 => rfl
      | 9 => rfl
      | 10 => rfl
      | 11 => rfl
      | 12 => rfl
      | 13 => rfl
      | 14 => rfl
      | 15 => rfl
      | 16 => rfl
      | 17 => rfl
      | 18 => rfl
      | 19 => rfl
      | j + 20 => rfl
    by_cases h122 : a = 122
    · subst h122
      funext j
      rfl
    by_cases h123 : a = 123
    · subst h123
      funext j
      rfl
    by_cases h124 : a = 124
    · subst h124
      funext j
      rfl
    by_cases h125 : a = 125
    · subst h125
      funext j
      rfl
    by_cases h126 : a = 126
    · subst h126
      funext j
      rfl
    by_cases h127 : a = 127
    · subst h127
      funext j
      rfl
    by_cases h128 : a = 128
    · subst h128
      funext j
      rfl
    by_cases h129 : a = 129
    · subst h129
      funext j
      rfl
    by_cases h130 : a = 130
    · subst h130
      funext j
      rfl
    by_cases h131 : a = 131
    · subst h131
      funext j
      rfl
    by_cases h132 : a = 132
    · subst h132
      funext j
      rfl
    simp only [mkI, mkT, mkA, am_sR, am_nw, am_R, am_n, am_st, va_up, h27, h121, h122, h123, h124, h125, h126, h127, h128, h129, h130, h131, h132, if_false]
    unfold am_r1
    rw [show Nat.beq a 27 = false from by
      cases hb : Nat.beq a 27 with
      | false => rfl
      | true => exact absurd (Nat.eq_of_beq_eq_true hb) h27]
  have hI : (mkI 121 1 (am_st ((o0, none, o2), sl, 121) I L)).1 = zrm (fun _ => (0 : Int32)) 121 12 I := zrI121
  have hL : (mkI 121 1 (am_st ((o0, none, o2), sl, 121) I L)).2.1 = zrm (fun _ => (0 : Int64)) 121 12 L := zrL121
  show ((mkI 121 1 (am_st ((o0, none, o2), sl, 121) I L)).1, (mkI 121 1 (am_st ((o0, none, o2), sl, 121) I L)).2.1, (mkI 121 1 (am_st ((o0, none, o2), sl, 121) I L)).2.2.1, (133 : Nat)) = _
  rw [hR, hI, hL]
  rfl
theorem kp_eq_2_97 {o0 o1 : Option Nat} {sl : Nat} {I : Nat → Nat → Int32} {L : Nat → Nat → Int64} : mkI 97 2 (am_st ((o0, o1, none), sl, 97) I L) = am_st ((o0, o1, some 97), sl, 109) (zrm (fun _ => (0 : Int32)) 97 12 I) (zrm (fun _ => (0 : Int64)) 97 12 L) := by
  have hR : (mkI 97 2 (am_st ((o0, o1, none), sl, 97) I L)).2.2.1 = am_r1 (am_im ((o0, o1, some 97), sl, 109).1) sl := by
    funext a
    by_cases h27 : a = 27
    · subst h27
      funext j
      match j with
      | 0 => rfl
      | 1 => rfl
      | 2 => rfl
      | j + 3 => rfl
    by_cases h97 : a = 97
    · subst h97
      funext j
      match j with
      | 0 => rfl
      | 1 => rfl
      | 2 => rfl
      | 3 => rfl
      | 4 => rfl
      | 5 => rfl
      | 6 => rfl
      | 7 => rfl
      | 8 => rfl
      | 9 => rfl
      | 10 => rfl
      | 11 => rfl
      | 12 => rfl
      | 13 => rfl
      | 14 => rfl
      | 15 => rfl
      | 16 => rfl
      | 17 => rfl
      | 18 => rfl
      | 19 => rfl
      | j + 20 => rfl
    by_cases h98 : a = 98
    · subst h98
      funext j
      rfl
    by_cases h99 : a = 99
    · subst h99
      funext j
      rfl
    by_cases h100 : a = 100
    · subst h100
      funext j
      rfl
    by_cases h101 : a = 101
    · subst h101
      funext j
      rfl
    by_cases h102 : a = 102
    · subst h102
      funext j
      rfl
    by_cases h103 : a = 103
    · subst h103
      funext j
      rfl
    by_cases h104 : a = 104
    · subst h104
      funext j
      rfl
    by_cases h105 : a = 105
    · subst h105
      funext j
      rfl
    by_cases h106 : a = 106
    · subst h106
      funext j
      rfl
    by_cases h107 : a = 107
    · subst h107
      funext j
      rfl
    by_cases h108 : a = 108
    · subst h108
      funext j
      rfl
    simp only [mkI, mkT, mkA, am_sR, am_nw, am_R, am_n, am_st, va_up, h27, h97, h98, h99, h100, h101, h102, h103, h104, h105, h106, h107, h108, if_false]
    unfold am_r1
    rw [show Nat.beq a 27 = false from by
      cases hb : Nat.beq a 27 with
      | false => rfl
      | true => exact absurd (Nat.eq_of_beq_eq_true hb) h27]
  have hI : (mkI 97 2 (am_st ((o0, o1, none), sl, 97) I L)).1 = zrm (fun _ => (0 : Int32)) 97 12 I := zrI97
  have hL : (mkI 97 2 (am_st ((o0, o1, none), sl, 97) I L)).2.1 = zrm (fun _ => (0 : Int64)) 97 12 L := zrL97
  show ((mkI 97 2 (am_st ((o0, o1, none), sl, 97) I L)).1, (mkI 97 2 (am_st ((o0, o1, none), sl, 97) I L)).2.1, (mkI 97 2 (am_st ((o0, o1, none), sl, 97) I L)).2.2.1, (109 : Nat)) = _
  rw [hR, hI, hL]
  rfl
theorem kp_eq_2_109 {o0 o1 : Option Nat} {sl : Nat} {I : Nat → Nat → Int32} {L : Nat → Nat → Int64} : mkI 109 2 (am_st ((o0, o1, none), sl, 109) I L) = am_st ((o0, o1, some 109), sl, 121) (zrm (fun _ => (0 : Int32)) 109 12 I) (zrm (fun _ => (0 : Int64)) 109 12 L) := by
  have hR : (mkI 109 2 (am_st ((o0, o1, none), sl, 109) I L)).2.2.1 = am_r1 (am_im ((o0, o1, some 109), sl, 121).1) sl := by
    funext a
    by_cases h27 : a = 27
    · subst h27
      funext j
      match j with
      | 0 => rfl
      | 1 => rfl
      | 2 => rfl
      | j + 3 => rfl
    by_cases h109 : a = 109
    · subst h109
      funext j
      match j with
      | 0 => rfl
      | 1 => rfl
      | 2 => rfl
      | 3 => rfl
      | 4 => rfl
      | 5 => rfl
      | 6 => rfl
      | 7 => rfl
      | 8 => rfl
      | 9 => rfl
      | 10 => rfl
      | 11 => rfl
      | 12 => rfl
      | 13 => rfl
      | 14 => rfl
      | 15 => rfl
      | 16 => rfl
      | 17 => rfl
      | 18 => rfl
      | 19 => rfl
      | j + 20 => rfl
    by_cases h110 : a = 110
    · subst h110
      funext j
      rfl
    by_cases h111 : a = 111
    · subst h111
      funext j
      rfl
    by_cases h112 : a = 112
    · subst h112
      funext j
      rfl
    by_cases h113 : a = 113
    · subst h113
      funext j
      rfl
    by_cases h114 : a = 114
    · subst h114
      funext j
      rfl
    by_cases h115 : a = 115
    · subst h115
      funext j
      rfl
    by_cases h116 : a = 116
    · subst h116
      funext j
      rfl
    by_cases h117 : a = 117
    · subst h117
      funext j
      rfl
    by_cases h118 : a = 118
    · subst h118
      funext j
      rfl
    by_cases h119 : a = 119
    · subst h119
      funext j
      rfl
    by_cases h120 : a = 120
    · subst h120
      funext j
      rfl
    simp only [mkI, mkT, mkA, am_sR, am_nw, am_R, am_n, am_st, va_up, h27, h109, h110, h111, h112, h113, h114, h115, h116, h117, h118, h119, h120, if_false]
    unfold am_r1
    rw [show Nat.beq a 27 = false from by
      cases hb : Nat.beq a 27 with
      | false => rfl
      | true => exact absurd (Nat.eq_of_beq_eq_true hb) h27]
  have hI : (mkI 109 2 (am_st ((o0, o1, none), sl, 109) I L)).1 = zrm (fun _ => (0 : Int32)) 109 12 I := zrI109
  have hL : (mkI 109 2 (am_st ((o0, o1, none), sl, 109) I L)).2.1 = zrm (fun _ => (0 : Int64)) 109 12 L := zrL109
  show ((mkI 109 2 (am_st ((o0, o1, none), sl, 109) I L)).1, (mkI 109 2 (am_st ((o0, o1, none), sl, 109) I L)).2.1, (mkI 109 2 (am_st ((o0, o1, none), sl, 109) I L)).2.2.1, (121 : Nat)) = _
  rw [hR, hI, hL]
  rfl
theorem kp_eq_2_121 {o0 o1 : Option Nat} {sl : Nat} {I : Nat → Nat → Int32} {L : Nat → Nat → Int64} : mkI 121 2 (am_st ((o0, o1, none), sl, 121) I L) = am_st ((o0, o1, some 121), sl, 133) (zrm (fun _ => (0 : Int32)) 121 12 I) (zrm (fun _ => (0 : Int64)) 121 12 L) := by
  have hR : (mkI 121 2 (am_st ((o0, o1, none), sl, 121) I L)).2.2.1 = am_r1 (am_im ((o0, o1, some 121), sl, 133).1) sl := by
    funext a
    by_cases h27 : a = 27
    · subst h27
      funext j
      match j with
      | 0 => rfl
      | 1 => rfl
      | 2 => rfl
      | j + 3 => rfl
    by_cases h121 : a = 121
    · subst h121
      funext j
      match j with
      | 0 => rfl
      | 1 => rfl
      | 2 => rfl
      | 3 => rfl
      | 4 => rfl
      | 5 => rfl
      | 6 => rfl
      | 7 => rfl
      | 8 => rfl
      | 9 => rfl
      | 10 => rfl
      | 11 => rfl
      | 12 => rfl
      | 13 => rfl
      | 14 => rfl
      | 15 => rfl
      | 16 => rfl
      | 17 => rfl
      | 18 => rfl
      | 19 => rfl
      | j + 20 => rfl
    by_cases h122 : a = 122
    · subst h122
      funext j
      rfl
    by_cases h123 : a = 123
    · subst h123
      funext j
      rfl
    by_cases h124 : a = 124
    · subst h124
      funext j
      rfl
    by_cases h125 : a = 125
    · subst h125
      funext j
      rfl
    by_cases h126 : a = 126
    · subst h126
      funext j
      rfl
    by_cases h127 : a = 127
    · subst h127
      funext j
      rfl
    by_cases h128 : a = 128
    · subst h128
      funext j
      rfl
    by_cases h129 : a = 129
    · subst h129
      funext j
      rfl
    by_cases h130 : a = 130
    · subst h130
      funext j
      rfl
    by_cases h131 : a = 131
    · subst h131
      funext j
      rfl
    by_cases h132 : a = 132
    · subst h132
      funext j
      rfl
    simp only [mkI, mkT, mkA, am_sR, am_nw, am_R, am_n, am_st, va_up, h27, h121, h122, h123, h124, h125, h126, h127, h128, h129, h130, h131, h132, if_false]
    unfold am_r1
    rw [show Nat.beq a 27 = false from by
      cases hb : Nat.beq a 27 with
      | false => rfl
      | true => exact absurd (Nat.eq_of_beq_eq_true hb) h27]
  have hI : (mkI 121 2 (am_st ((o0, o1, none), sl, 121) I L)).1 = zrm (fun _ => (0 : Int32)) 121 12 I := zrI121
  have hL : (mkI 121 2 (am_st ((o0, o1, none), sl, 121) I L)).2.1 = zrm (fun _ => (0 : Int64)) 121 12 L := zrL121
  show ((mkI 121 2 (am_st ((o0, o1, none), sl, 121) I L)).1, (mkI 121 2 (am_st ((o0, o1, none), sl, 121) I L)).2.1, (mkI 121 2 (am_st ((o0, o1, none), sl, 121) I L)).2.2.1, (133 : Nat)) = _
  rw [hR, hI, hL]
  rfl
set_option maxRecDepth 20000 in
theorem t_init_97 {I : Nat → Nat → Int32} {L : Nat → Nat → Int64} {R : Nat → Nat → Option Nat} {Post : Option Value → am_S → Prop} (h : Post none (mkT 97 (I, L, R, 97))) : am_C am_P 8 mi_X7_init [.ref 97] (am_new (I, L, R, 97)) 11 1814 Post := by
  refine am_run_ok am_OK (by decide) [] 60 _ _ _ _ _ _ ?_
  conv => whnf
  refine ⟨rfl, show 1 ≤ 11 from by decide, show 64 ≤ 1814 from by decide, ?_⟩
  conv => whnf
  refine ⟨rfl, show 1 ≤ 10 from by decide, show 8 ≤ 1750 from by decide, ?_⟩
  conv => whnf
  refine ⟨rfl, show 1 ≤ 9 from by decide, show 64 ≤ 1742 from by decide, ?_⟩
  conv => whnf
  refine ⟨rfl, show 1 ≤ 8 from by decide, show 64 ≤ 1678 from by decide, ?_⟩
  conv => whnf
  refine ⟨rfl, show 1 ≤ 7 from by decide, show 512 ≤ 1614 from by decide, ?_⟩
  conv => whnf
  refine ⟨rfl, show 1 ≤ 6 from by decide, show 512 ≤ 1102 from by decide, ?_⟩
  conv => whnf
  refine ⟨rfl, show 1 ≤ 5 from by decide, show 512 ≤ 590 from by decide, ?_⟩
  conv => whnf
  refine ⟨rfl, show 1 ≤ 4 from by decide, show 6 ≤ 78 from by decide, ?_⟩
  conv => whnf
  refine ⟨rfl, show 1 ≤ 3 from by decide, show 6 ≤ 72 from by decide, ?_⟩
  conv => whnf
  refine ⟨rfl, show 1 ≤ 2 from by decide, show 6 ≤ 66 from by decide, ?_⟩
  conv => whnf
  refine ⟨rfl, show 1 ≤ 1 from by decide, show 60 ≤ 60 from by decide, ?_⟩
  conv => whnf
  exact ⟨rfl, h⟩
set_option maxRecDepth 20000 in
theorem t_init_109 {I : Nat → Nat → Int32} {L : Nat → Nat → Int64} {R : Nat → Nat → Option Nat} {Post : Option Value → am_S → Prop} (h : Post none (mkT 109 (I, L, R, 109))) : am_C am_P 8 mi_X7_init [.ref 109] (am_new (I, L, R, 109)) 11 1814 Post := by
  refine am_run_ok am_OK (by decide) [] 60 _ _ _ _ _ _ ?_
  conv => whnf
  refine ⟨rfl, show 1 ≤ 11 from by decide, show 64 ≤ 1814 from by decide, ?_⟩
  conv => whnf
  refine ⟨rfl, show 1 ≤ 10 from by decide, show 8 ≤ 1750 from by decide, ?_⟩
  conv => whnf
  refine ⟨rfl, show 1 ≤ 9 from by decide, show 64 ≤ 1742 from by decide, ?_⟩
  conv => whnf
  refine ⟨rfl, show 1 ≤ 8 from by decide, show 64 ≤ 1678 from by decide, ?_⟩
  conv => whnf
  refine ⟨rfl, show 1 ≤ 7 from by decide, show 512 ≤ 1614 from by decide, ?_⟩
  conv => whnf
  refine ⟨rfl, show 1 ≤ 6 from by decide, show 512 ≤ 1102 from by decide, ?_⟩
  conv => whnf
  refine ⟨rfl, show 1 ≤ 5 from by decide, show 512 ≤ 590 from by decide, ?_⟩
  conv => whnf
  refine ⟨rfl, show 1 ≤ 4 from by decide, show 6 ≤ 78 from by decide, ?_⟩
  conv => whnf
  refine ⟨rfl, show 1 ≤ 3 from by decide, show 6 ≤ 72 from by decide, ?_⟩
  conv => whnf
  refine ⟨rfl, show 1 ≤ 2 from by decide, show 6 ≤ 66 from by decide, ?_⟩
  conv => whnf
  refine ⟨rfl, show 1 ≤ 1 from by decide, show 60 ≤ 60 from by decide, ?_⟩
  conv => whnf
  exact ⟨rfl, h⟩
set_option maxRecDepth 20000 in
theorem t_init_121 {I : Nat → Nat → Int32} {L : Nat → Nat → Int64} {R : Nat → Nat → Option Nat} {Post : Option Value → am_S → Prop} (h : Post none (mkT 121 (I, L, R, 121))) : am_C am_P 8 mi_X7_init [.ref 121] (am_new (I, L, R, 121)) 11 1814 Post := by
  refine am_run_ok am_OK (by decide) [] 60 _ _ _ _ _ _ ?_
  conv => whnf
  refine ⟨rfl, show 1 ≤ 11 from by decide, show 64 ≤ 1814 from by decide, ?_⟩
  conv => whnf
  refine ⟨rfl, show 1 ≤ 10 from by decide, show 8 ≤ 1750 from by decide, ?_⟩
  conv => whnf
  refine ⟨rfl, show 1 ≤ 9 from by decide, show 64 ≤ 1742 from by decide, ?_⟩
  conv => whnf
  refine ⟨rfl, show 1 ≤ 8 from by decide, show 64 ≤ 1678 from by decide, ?_⟩
  conv => whnf
  refine ⟨rfl, show 1 ≤ 7 from by decide, show 512 ≤ 1614 from by decide, ?_⟩
  conv => whnf
  refine ⟨rfl, show 1 ≤ 6 from by decide, show 512 ≤ 1102 from by decide, ?_⟩
  conv => whnf
  refine ⟨rfl, show 1 ≤ 5 from by decide, show 512 ≤ 590 from by decide, ?_⟩
  conv => whnf
  refine ⟨rfl, show 1 ≤ 4 from by decide, show 6 ≤ 78 from by decide, ?_⟩
  conv => whnf
  refine ⟨rfl, show 1 ≤ 3 from by decide, show 6 ≤ 72 from by decide, ?_⟩
  conv => whnf
  refine ⟨rfl, show 1 ≤ 2 from by decide, show 6 ≤ 66 from by decide, ?_⟩
  conv => whnf
  refine ⟨rfl, show 1 ≤ 1 from by decide, show 60 ≤ 60 from by decide, ?_⟩
  conv => whnf
  exact ⟨rfl, h⟩
theorem t_keepn_0_97 {o1 o2 : Option Nat} {sl : Nat} {I : Nat → Nat → Int32} {L : Nat → Nat → Int64} {Post : Option Value → am_S → Prop} (h : C_X7_become_97_3 ((some 97, o1, o2), sl, 109) (zrm (fun _ => (0 : Int32)) 97 12 I) (zrm (fun _ => (0 : Int64)) 97 12 L) (fun J => Post (some (.int (nI 0))) (am_st ((some 97, o1, o2), sl, 109) J (zrm (fun _ => (0 : Int64)) 97 12 L)))) : am_C am_P 10 mi_X10_keep [.ref 0, .int (nI 0)] (am_st ((none, o1, o2), sl, 97) I L) 12 1834 Post := by
  refine am_run_ok am_OK (by decide) [] 60 _ _ _ _ _ _ ?_
  refine And.intro (fun q => absurd q (show ¬ (nI 0) < (nI 0) from by decide)) (fun _ => And.intro (fun _ => And.intro (show vp_in (nI 0) 3 from lm_in (by decide)) ?_) (fun q => absurd (show (nI 0) < (nI 3) from by decide) q))
  conv => whnf
  refine ⟨Nat.le_of_ble_eq_true rfl, Nat.le_of_ble_eq_true rfl, 11, 1814, Nat.le_of_ble_eq_true rfl, Nat.le_of_ble_eq_true rfl, ?_⟩
  refine am_C_d (t_init_97 ?_) (by decide)
  refine And.intro (show vp_in (nI 0) 3 from lm_in (by decide)) (And.intro (show vp_in (nI 0) 3 from lm_in (by decide)) (Exists.intro 0 (Exists.intro 0 (And.intro (Nat.zero_le _) (And.intro (Nat.zero_le _) ?_)))))
  exact am_C_eq (kp_eq_0_97 (I := I) (L := L)) (am_cV (am_C_d h (by decide)) (fun J h2 => And.intro ⟨_, rfl, rfl⟩ h2))
theorem t_keepn_0_109 {o1 o2 : Option Nat} {sl : Nat} {I : Nat → Nat → Int32} {L : Nat → Nat → Int64} {Post : Option Value → am_S → Prop} (h : C_X7_become_109_3 ((some 109, o1, o2), sl, 121) (zrm (fun _ => (0 : Int32)) 109 12 I) (zrm (fun _ => (0 : Int64)) 109 12 L) (fun J => Post (some (.int (nI 0))) (am_st ((some 109, o1, o2), sl, 121) J (zrm (fun _ => (0 : Int64)) 109 12 L)))) : am_C am_P 10 mi_X10_keep [.ref 0, .int (nI 0)] (am_st ((none, o1, o2), sl, 109) I L) 12 1834 Post := by
  refine am_run_ok am_OK (by decide) [] 60 _ _ _ _ _ _ ?_
  refine And.intro (fun q => absurd q (show ¬ (nI 0) < (nI 0) from by decide)) (fun _ => And.intro (fun _ => And.intro (show vp_in (nI 0) 3 from lm_in (by decide)) ?_) (fun q => absurd (show (nI 0) < (nI 3) from by decide) q))
  conv => whnf
  refine ⟨Nat.le_of_ble_eq_true rfl, Nat.le_of_ble_eq_true rfl, 11, 1814, Nat.le_of_ble_eq_true rfl, Nat.le_of_ble_eq_true rfl, ?_⟩
  refine am_C_d (t_init_109 ?_) (by decide)
  refine And.intro (show vp_in (nI 0) 3 from lm_in (by decide)) (And.intro (show vp_in (nI 0) 3 from lm_in (by decide)) (Exists.intro 0 (Exists.intro 0 (And.intro (Nat.zero_le _) (And.intro (Nat.zero_le _) ?_)))))
  exact am_C_eq (kp_eq_0_109 (I := I) (L := L)) (am_cV (am_C_d h (by decide)) (fun J h2 => And.intro ⟨_, rfl, rfl⟩ h2))
theorem t_keepn_0_121 {o1 o2 : Option Nat} {sl : Nat} {I : Nat → Nat → Int32} {L : Nat → Nat → Int64} {Post : Option Value → am_S → Prop} (h : C_X7_become_121_3 ((some 121, o1, o2), sl, 133) (zrm (fun _ => (0 : Int32)) 121 12 I) (zrm (fun _ => (0 : Int64)) 121 12 L) (fun J => Post (some (.int (nI 0))) (am_st ((some 121, o1, o2), sl, 133) J (zrm (fun _ => (0 : Int64)) 121 12 L)))) : am_C am_P 10 mi_X10_keep [.ref 0, .int (nI 0)] (am_st ((none, o1, o2), sl, 121) I L) 12 1834 Post := by
  refine am_run_ok am_OK (by decide) [] 60 _ _ _ _ _ _ ?_
  refine And.intro (fun q => absurd q (show ¬ (nI 0) < (nI 0) from by decide)) (fun _ => And.intro (fun _ => And.intro (show vp_in (nI 0) 3 from lm_in (by decide)) ?_) (fun q => absurd (show (nI 0) < (nI 3) from by decide) q))
  conv => whnf
  refine ⟨Nat.le_of_ble_eq_true rfl, Nat.le_of_ble_eq_true rfl, 11, 1814, Nat.le_of_ble_eq_true rfl, Nat.le_of_ble_eq_true rfl, ?_⟩
  refine am_C_d (t_init_121 ?_) (by decide)
  refine And.intro (show vp_in (nI 0) 3 from lm_in (by decide)) (And.intro (show vp_in (nI 0) 3 from lm_in (by decide)) (Exists.intro 0 (Exists.intro 0 (And.intro (Nat.zero_le _) (And.intro (Nat.zero_le _) ?_)))))
  exact am_C_eq (kp_eq_0_121 (I := I) (L := L)) (am_cV (am_C_d h (by decide)) (fun J h2 => And.intro ⟨_, rfl, rfl⟩ h2))
theorem t_keepn_1_97 {o0 o2 : Option Nat} {sl : Nat} {I : Nat → Nat → Int32} {L : Nat → Nat → Int64} {Post : Option Value → am_S → Prop} (h : C_X7_become_97_3 ((o0, some 97, o2), sl, 109) (zrm (fun _ => (0 : Int32)) 97 12 I) (zrm (fun _ => (0 : Int64)) 97 12 L) (fun J => Post (some (.int (nI 0))) (am_st ((o0, some 97, o2), sl, 109) J (zrm (fun _ => (0 : Int64)) 97 12 L)))) : am_C am_P 10 mi_X10_keep [.ref 0, .int (nI 1)] (am_st ((o0, none, o2), sl, 97) I L) 12 1834 Post := by
  refine am_run_ok am_OK (by decide) [] 60 _ _ _ _ _ _ ?_
  refine And.intro (fun q => absurd q (show ¬ (nI 1) < (nI 0) from by decide)) (fun _ => And.intro (fun _ => And.intro (show vp_in (nI 1) 3 from lm_in (by decide)) ?_) (fun q => absurd (show (nI 1) < (nI 3) from by decide) q))
  conv => whnf
  refine ⟨Nat.le_of_ble_eq_true rfl, Nat.le_of_ble_eq_true rfl, 11, 1814, Nat.le_of_ble_eq_true rfl, Nat.le_of_ble_eq_true rfl, ?_⟩
  refine am_C_d (t_init_97 ?_) (by decide)
  refine And.intro (show vp_in (nI 1) 3 from lm_in (by decide)) (And.intro (show vp_in (nI 1) 3 from lm_in (by decide)) (Exists.intro 0 (Exists.intro 0 (And.intro (Nat.zero_le _) (And.intro (Nat.zero_le _) ?_)))))
  exact am_C_eq (kp_eq_1_97 (I := I) (L := L)) (am_cV (am_C_d h (by decide)) (fun J h2 => And.intro ⟨_, rfl, rfl⟩ h2))
theorem t_keepn_1_109 {o0 o2 : Option Nat} {sl : Nat} {I : Nat → Nat → Int32} {L : Nat → Nat → Int64} {Post : Option Value → am_S → Prop} (h : C_X7_become_109_3 ((o0, some 109, o2), sl, 121) (zrm (fun _ => (0 : Int32)) 109 12 I) (zrm (fun _ => (0 : Int64)) 109 12 L) (fun J => Post (some (.int (nI 0))) (am_st ((o0, some 109, o2), sl, 121) J (zrm (fun _ => (0 : Int64)) 109 12 L)))) : am_C am_P 10 mi_X10_keep [.ref 0, .int (nI 1)] (am_st ((o0, none, o2), sl, 109) I L) 12 1834 Post := by
  refine am_run_ok am_OK (by decide) [] 60 _ _ _ _ _ _ ?_
  refine And.intro (fun q => absurd q (show ¬ (nI 1) < (nI 0) from by decide)) (fun _ => And.intro (fun _ => And.intro (show vp_in (nI 1) 3 from lm_in (by decide)) ?_) (fun q => absurd (show (nI 1) < (nI 3) from by decide) q))
  conv => whnf
  refine ⟨Nat.le_of_ble_eq_true rfl, Nat.le_of_ble_eq_true rfl, 11, 1814, Nat.le_of_ble_eq_true rfl, Nat.le_of_ble_eq_true rfl, ?_⟩
  refine am_C_d (t_init_109 ?_) (by decide)
  refine And.intro (show vp_in (nI 1) 3 from lm_in (by decide)) (And.intro (show vp_in (nI 1) 3 from lm_in (by decide)) (Exists.intro 0 (Exists.intro 0 (And.intro (Nat.zero_le _) (And.intro (Nat.zero_le _) ?_)))))
  exact am_C_eq (kp_eq_1_109 (I := I) (L := L)) (am_cV (am_C_d h (by decide)) (fun J h2 => And.intro ⟨_, rfl, rfl⟩ h2))
theorem t_keepn_1_121 {o0 o2 : Option Nat} {sl : Nat} {I : Nat → Nat → Int32} {L : Nat → Nat → Int64} {Post : Option Value → am_S → Prop} (h : C_X7_become_121_3 ((o0, some 121, o2), sl, 133) (zrm (fun _ => (0 : Int32)) 121 12 I) (zrm (fun _ => (0 : Int64)) 121 12 L) (fun J => Post (some (.int (nI 0))) (am_st ((o0, some 121, o2), sl, 133) J (zrm (fun _ => (0 : Int64)) 121 12 L)))) : am_C am_P 10 mi_X10_keep [.ref 0, .int (nI 1)] (am_st ((o0, none, o2), sl, 121) I L) 12 1834 Post := by
  refine am_run_ok am_OK (by decide) [] 60 _ _ _ _ _ _ ?_
  refine And.intro (fun q => absurd q (show ¬ (nI 1) < (nI 0) from by decide)) (fun _ => And.intro (fun _ => And.intro (show vp_in (nI 1) 3 from lm_in (by decide)) ?_) (fun q => absurd (show (nI 1) < (nI 3) from by decide) q))
  conv => whnf
  refine ⟨Nat.le_of_ble_eq_true rfl, Nat.le_of_ble_eq_true rfl, 11, 1814, Nat.le_of_ble_eq_true rfl, Nat.le_of_ble_eq_true rfl, ?_⟩
  refine am_C_d (t_init_121 ?_) (by decide)
  refine And.intro (show vp_in (nI 1) 3 from lm_in (by decide)) (And.intro (show vp_in (nI 1) 3 from lm_in (by decide)) (Exists.intro 0 (Exists.intro 0 (And.intro (Nat.zero_le _) (And.intro (Nat.zero_le _) ?_)))))
  exact am_C_eq (kp_eq_1_121 (I := I) (L := L)) (am_cV (am_C_d h (by decide)) (fun J h2 => And.intro ⟨_, rfl, rfl⟩ h2))
theorem t_keepn_2_97 {o0 o1 : Option Nat} {sl : Nat} {I : Nat → Nat → Int32} {L : Nat → Nat → Int64} {Post : Option Value → am_S → Prop} (h : C_X7_become_97_3 ((o0, o1, some 97), sl, 109) (zrm (fun _ => (0 : Int32)) 97 12 I) (zrm (fun _ => (0 : Int64)) 97 12 L) (fun J => Post (some (.int (nI 0))) (am_st ((o0, o1, some 97), sl, 109) J (zrm (fun _ => (0 : Int64)) 97 12 L)))) : am_C am_P 10 mi_X10_keep [.ref 0, .int (nI 2)] (am_st ((o0, o1, none), sl, 97) I L) 12 1834 Post := by
  refine am_run_ok am_OK (by decide) [] 60 _ _ _ _ _ _ ?_
  refine And.intro (fun q => absurd q (show ¬ (nI 2) < (nI 0) from by decide)) (fun _ => And.intro (fun _ => And.intro (show vp_in (nI 2) 3 from lm_in (by decide)) ?_) (fun q => absurd (show (nI 2) < (nI 3) from by decide) q))
  conv => whnf
  refine ⟨Nat.le_of_ble_eq_true rfl, Nat.le_of_ble_eq_true rfl, 11, 1814, Nat.le_of_ble_eq_true rfl, Nat.le_of_ble_eq_true rfl, ?_⟩
  refine am_C_d (t_init_97 ?_) (by decide)
  refine And.intro (show vp_in (nI 2) 3 from lm_in (by decide)) (And.intro (show vp_in (nI 2) 3 from lm_in (by decide)) (Exists.intro 0 (Exists.intro 0 (And.intro (Nat.zero_le _) (And.intro (Nat.zero_le _) ?_)))))
  exact am_C_eq (kp_eq_2_97 (I := I) (L := L)) (am_cV (am_C_d h (by decide)) (fun J h2 => And.intro ⟨_, rfl, rfl⟩ h2))
theorem t_keepn_2_109 {o0 o1 : Option Nat} {sl : Nat} {I : Nat → Nat → Int32} {L : Nat → Nat → Int64} {Post : Option Value → am_S → Prop} (h : C_X7_become_109_3 ((o0, o1, some 109), sl, 121) (zrm (fun _ => (0 : Int32)) 109 12 I) (zrm (fun _ => (0 : Int64)) 109 12 L) (fun J => Post (some (.int (nI 0))) (am_st ((o0, o1, some 109), sl, 121) J (zrm (fun _ => (0 : Int64)) 109 12 L)))) : am_C am_P 10 mi_X10_keep [.ref 0, .int (nI 2)] (am_st ((o0, o1, none), sl, 109) I L) 12 1834 Post := by
  refine am_run_ok am_OK (by decide) [] 60 _ _ _ _ _ _ ?_
  refine And.intro (fun q => absurd q (show ¬ (nI 2) < (nI 0) from by decide)) (fun _ => And.intro (fun _ => And.intro (show vp_in (nI 2) 3 from lm_in (by decide)) ?_) (fun q => absurd (show (nI 2) < (nI 3) from by decide) q))
  conv => whnf
  refine ⟨Nat.le_of_ble_eq_true rfl, Nat.le_of_ble_eq_true rfl, 11, 1814, Nat.le_of_ble_eq_true rfl, Nat.le_of_ble_eq_true rfl, ?_⟩
  refine am_C_d (t_init_109 ?_) (by decide)
  refine And.intro (show vp_in (nI 2) 3 from lm_in (by decide)) (And.intro (show vp_in (nI 2) 3 from lm_in (by decide)) (Exists.intro 0 (Exists.intro 0 (And.intro (Nat.zero_le _) (And.intro (Nat.zero_le _) ?_)))))
  exact am_C_eq (kp_eq_2_109 (I := I) (L := L)) (am_cV (am_C_d h (by decide)) (fun J h2 => And.intro ⟨_, rfl, rfl⟩ h2))
theorem t_keepn_2_121 {o0 o1 : Option Nat} {sl : Nat} {I : Nat → Nat → Int32} {L : Nat → Nat → Int64} {Post : Option Value → am_S → Prop} (h : C_X7_become_121_3 ((o0, o1, some 121), sl, 133) (zrm (fun _ => (0 : Int32)) 121 12 I) (zrm (fun _ => (0 : Int64)) 121 12 L) (fun J => Post (some (.int (nI 0))) (am_st ((o0, o1, some 121), sl, 133) J (zrm (fun _ => (0 : Int64)) 121 12 L)))) : am_C am_P 10 mi_X10_keep [.ref 0, .int (nI 2)] (am_st ((o0, o1, none), sl, 121) I L) 12 1834 Post := by
  refine am_run_ok am_OK (by decide) [] 60 _ _ _ _ _ _ ?_
  refine And.intro (fun q => absurd q (show ¬ (nI 2) < (nI 0) from by decide)) (fun _ => And.intro (fun _ => And.intro (show vp_in (nI 2) 3 from lm_in (by decide)) ?_) (fun q => absurd (show (nI 2) < (nI 3) from by decide) q))
  conv => whnf
  refine ⟨Nat.le_of_ble_eq_true rfl, Nat.le_of_ble_eq_true rfl, 11, 1814, Nat.le_of_ble_eq_true rfl, Nat.le_of_ble_eq_true rfl, ?_⟩
  refine am_C_d (t_init_121 ?_) (by decide)
  refine And.intro (show vp_in (nI 2) 3 from lm_in (by decide)) (And.intro (show vp_in (nI 2) 3 from lm_in (by decide)) (Exists.intro 0 (Exists.intro 0 (And.intro (Nat.zero_le _) (And.intro (Nat.zero_le _) ?_)))))
  exact am_C_eq (kp_eq_2_121 (I := I) (L := L)) (am_cV (am_C_d h (by decide)) (fun J h2 => And.intro ⟨_, rfl, rfl⟩ h2))
theorem bb_back_0_97 {o1 o2 : Option Nat} {sl n : Nat} {I : Nat → Nat → Int32} {L : Nat → Nat → Int64} {Q : Int32 → (Nat → Nat → Int32) → Prop} (h : C_X7_become_3_97 ((some 97, o1, o2), sl, n) I L (fun I2 => Q (nI 0) (va_up I2 0 (va_up (I2 0) 12 ((I2 0 12) + (nI 1)))))) : C_X10_back_0 ((some 97, o1, o2), sl, n) (nI 0) I L Q := am_run_ok am_OK (by decide) [] 34 _ _ _ _ _ _ (And.intro (fun q4 => absurd q4 (show ¬ (nI 0) < (nI 0) from by decide)) (fun _ => And.intro (fun _ => And.intro (show vp_in (nI 0) 3 from lm_in (by decide)) (And.intro (show vp_in (nI 0) 3 from lm_in (by decide)) (Exists.intro 0 (Exists.intro 0 (And.intro (Nat.zero_le _) (And.intro (Nat.zero_le _) (am_cV (am_C_d h (by decide)) (fun I2 h6 => And.intro ⟨_, rfl, rfl⟩ ⟨_, _, rfl, rfl, h6⟩)))))))) (fun q5 => absurd (show (nI 0) < (nI 3) from by decide) q5)))
theorem bb_keep_0_97 {o1 o2 : Option Nat} {sl n : Nat} {I : Nat → Nat → Int32} {L : Nat → Nat → Int64} {Q : Int32 → (Nat → Nat → Int32) → Prop} (h : C_X7_become_97_3 ((some 97, o1, o2), sl, n) I L (fun I2 => Q (nI 0) I2)) : C_X10_keep_0 ((some 97, o1, o2), sl, n) (nI 0) I L Q := am_run_ok am_OK (by decide) [] 33 _ _ _ _ _ _ (And.intro (fun q4 => absurd q4 (show ¬ (nI 0) < (nI 0) from by decide)) (fun _ => And.intro (fun _ => And.intro (show vp_in (nI 0) 3 from lm_in (by decide)) (And.intro (show vp_in (nI 0) 3 from lm_in (by decide)) (Exists.intro 0 (Exists.intro 0 (And.intro (Nat.zero_le _) (And.intro (Nat.zero_le _) (am_cV (am_C_d h (by decide)) (fun I2 h6 => And.intro ⟨_, rfl, rfl⟩ ⟨_, _, rfl, rfl, h6⟩)))))))) (fun q5 => absurd (show (nI 0) < (nI 3) from by decide) q5)))
theorem bb_back_0_109 {o1 o2 : Option Nat} {sl n : Nat} {I : Nat → Nat → Int32} {L : Nat → Nat → Int64} {Q : Int32 → (Nat → Nat → Int32) → Prop} (h : C_X7_become_3_109 ((some 109, o1, o2), sl, n) I L (fun I2 => Q (nI 0) (va_up I2 0 (va_up (I2 0) 12 ((I2 0 12) + (nI 1)))))) : C_X10_back_0 ((some 109, o1, o2), sl, n) (nI 0) I L Q := am_run_ok am_OK (by decide) [] 34 _ _ _ _ _ _ (And.intro (fun q4 => absurd q4 (show ¬ (nI 0) < (nI 0) from by decide)) (fun _ => And.intro (fun _ => And.intro (show vp_in (nI 0) 3 from lm_in (by decide)) (And.intro (show vp_in (nI 0) 3 from lm_in (by decide)) (Exists.intro 0 (Exists.intro 0 (And.intro (Nat.zero_le _) (And.intro (Nat.zero_le _) (am_cV (am_C_d h (by decide)) (fun I2 h6 => And.intro ⟨_, rfl, rfl⟩ ⟨_, _, rfl, rfl, h6⟩)))))))) (fun q5 => absurd (show (nI 0) < (nI 3) from by decide) q5)))
theorem bb_keep_0_109 {o1 o2 : Option Nat} {sl n : Nat} {I : Nat → Nat → Int32} {L : Nat → Nat → Int64} {Q : Int32 → (Nat → Nat → Int32) → Prop} (h : C_X7_become_109_3 ((some 109, o1, o2), sl, n) I L (fun I2 => Q (nI 0) I2)) : C_X10_keep_0 ((some 109, o1, o2), sl, n) (nI 0) I L Q := am_run_ok am_OK (by decide) [] 33 _ _ _ _ _ _ (And.intro (fun q4 => absurd q4 (show ¬ (nI 0) < (nI 0) from by decide)) (fun _ => And.intro (fun _ => And.intro (show vp_in (nI 0) 3 from lm_in (by decide)) (And.intro (show vp_in (nI 0) 3 from lm_in (by decide)) (Exists.intro 0 (Exists.intro 0 (And.intro (Nat.zero_le _) (And.intro (Nat.zero_le _) (am_cV (am_C_d h (by decide)) (fun I2 h6 => And.intro ⟨_, rfl, rfl⟩ ⟨_, _, rfl, rfl, h6⟩)))))))) (fun q5 => absurd (show (nI 0) < (nI 3) from by decide) q5)))
theorem bb_back_0_121 {o1 o2 : Option Nat} {sl n : Nat} {I : Nat → Nat → Int32} {L : Nat → Nat → Int64} {Q : Int32 → (Nat → Nat → Int32) → Prop} (h : C_X7_become_3_121 ((some 121, o1, o2), sl, n) I L (fun I2 => Q (nI 0) (va_up I2 0 (va_up (I2 0) 12 ((I2 0 12) + (nI 1)))))) : C_X10_back_0 ((some 121, o1, o2), sl, n) (nI 0) I L Q := am_run_ok am_OK (by decide) [] 34 _ _ _ _ _ _ (And.intro (fun q4 => absurd q4 (show ¬ (nI 0) < (nI 0) from by decide)) (fun _ => And.intro (fun _ => And.intro (show vp_in (nI 0) 3 from lm_in (by decide)) (And.intro (show vp_in (nI 0) 3 from lm_in (by decide)) (Exists.intro 0 (Exists.intro 0 (And.intro (Nat.zero_le _) (And.intro (Nat.zero_le _) (am_cV (am_C_d h (by decide)) (fun I2 h6 => And.intro ⟨_, rfl, rfl⟩ ⟨_, _, rfl, rfl, h6⟩)))))))) (fun q5 => absurd (show (nI 0) < (nI 3) from by decide) q5)))
theorem bb_keep_0_121 {o1 o2 : Option Nat} {sl n : Nat} {I : Nat → Nat → Int32} {L : Nat → Nat → Int64} {Q : Int32 → (Nat → Nat → Int32) → Prop} (h : C_X7_become_121_3 ((some 121, o1, o2), sl, n) I L (fun I2 => Q (nI 0) I2)) : C_X10_keep_0 ((some 121, o1, o2), sl, n) (nI 0) I L Q := am_run_ok am_OK (by decide) [] 33 _ _ _ _ _ _ (And.intro (fun q4 => absurd q4 (show ¬ (nI 0) < (nI 0) from by decide)) (fun _ => And.intro (fun _ => And.intro (show vp_in (nI 0) 3 from lm_in (by decide)) (And.intro (show vp_in (nI 0) 3 from lm_in (by decide)) (Exists.intro 0 (Exists.intro 0 (And.intro (Nat.zero_le _) (And.intro (Nat.zero_le _) (am_cV (am_C_d h (by decide)) (fun I2 h6 => And.intro ⟨_, rfl, rfl⟩ ⟨_, _, rfl, rfl, h6⟩)))))))) (fun q5 => absurd (show (nI 0) < (nI 3) from by decide) q5)))
theorem bb_backn_0 {o1 o2 : Option Nat} {sl n : Nat} {I : Nat → Nat → Int32} {L : Nat → Nat → Int64} {Q : Int32 → (Nat → Nat → Int32) → Prop} (h : Q (-6 : Int32) I) : C_X10_back_0 ((none, o1, o2), sl, n) (nI 0) I L Q := am_run_ok am_OK (by decide) [] 34 _ _ _ _ _ _ (And.intro (fun q4 => absurd q4 (show ¬ (nI 0) < (nI 0) from by decide)) (fun _ => And.intro (fun _ => And.intro (show vp_in (nI 0) 3 from lm_in (by decide)) (And.intro ⟨_, rfl, rfl⟩ ⟨_, _, rfl, rfl, h⟩)) (fun q5 => absurd (show (nI 0) < (nI 3) from by decide) q5)))
theorem bb_back_1_97 {o0 o2 : Option Nat} {sl n : Nat} {I : Nat → Nat → Int32} {L : Nat → Nat → Int64} {Q : Int32 → (Nat → Nat → Int32) → Prop} (h : C_X7_become_3_97 ((o0, some 97, o2), sl, n) I L (fun I2 => Q (nI 0) (va_up I2 0 (va_up (I2 0) 12 ((I2 0 12) + (nI 1)))))) : C_X10_back_0 ((o0, some 97, o2), sl, n) (nI 1) I L Q := am_run_ok am_OK (by decide) [] 34 _ _ _ _ _ _ (And.intro (fun q4 => absurd q4 (show ¬ (nI 1) < (nI 0) from by decide)) (fun _ => And.intro (fun _ => And.intro (show vp_in (nI 1) 3 from lm_in (by decide)) (And.intro (show vp_in (nI 1) 3 from lm_in (by decide)) (Exists.intro 0 (Exists.intro 0 (And.intro (Nat.zero_le _) (And.intro (Nat.zero_le _) (am_cV (am_C_d h (by decide)) (fun I2 h6 => And.intro ⟨_, rfl, rfl⟩ ⟨_, _, rfl, rfl, h6⟩)))))))) (fun q5 => absurd (show (nI 1) < (nI 3) from by decide) q5)))
theorem bb_keep_1_97 {o0 o2 : Option Nat} {sl n : Nat} {I : Nat → Nat → Int32} {L : Nat → Nat → Int64} {Q : Int32 → (Nat → Nat → Int32) → Prop} (h : C_X7_become_97_3 ((o0, some 97, o2), sl, n) I L (fun I2 => Q (nI 0) I2)) : C_X10_keep_0 ((o0, some 97, o2), sl, n) (nI 1) I L Q := am_run_ok am_OK (by decide) [] 33 _ _ _ _ _ _ (And.intro (fun q4 => absurd q4 (show ¬ (nI 1) < (nI 0) from by decide)) (fun _ => And.intro (fun _ => And.intro (show vp_in (nI 1) 3 from lm_in (by decide)) (And.intro (show vp_in (nI 1) 3 from lm_in (by decide)) (Exists.intro 0 (Exists.intro 0 (And.intro (Nat.zero_le _) (And.intro (Nat.zero_le _) (am_cV (am_C_d h (by decide)) (fun I2 h6 => And.intro ⟨_, rfl, rfl⟩ ⟨_, _, rfl, rfl, h6⟩)))))))) (fun q5 => absurd (show (nI 1) < (nI 3) from by decide) q5)))
theorem bb_back_1_109 {o0 o2 : Option Nat} {sl n : Nat} {I : Nat → Nat → Int32} {L : Nat → Nat → Int64} {Q : Int32 → (Nat → Nat → Int32) → Prop} (h : C_X7_become_3_109 ((o0, some 109, o2), sl, n) I L (fun I2 => Q (nI 0) (va_up I2 0 (va_up (I2 0) 12 ((I2 0 12) + (nI 1)))))) : C_X10_back_0 ((o0, some 109, o2), sl, n) (nI 1) I L Q := am_run_ok am_OK (by decide) [] 34 _ _ _ _ _ _ (And.intro (fun q4 => absurd q4 (show ¬ (nI 1) < (nI 0) from by decide)) (fun _ => And.intro (fun _ => And.intro (show vp_in (nI 1) 3 from lm_in (by decide)) (And.intro (show vp_in (nI 1) 3 from lm_in (by decide)) (Exists.intro 0 (Exists.intro 0 (And.intro (Nat.zero_le _) (And.intro (Nat.zero_le _) (am_cV (am_C_d h (by decide)) (fun I2 h6 => And.intro ⟨_, rfl, rfl⟩ ⟨_, _, rfl, rfl, h6⟩)))))))) (fun q5 => absurd (show (nI 1) < (nI 3) from by decide) q5)))
theorem bb_keep_1_109 {o0 o2 : Option Nat} {sl n : Nat} {I : Nat → Nat → Int32} {L : Nat → Nat → Int64} {Q : Int32 → (Nat → Nat → Int32) → Prop} (h : C_X7_become_109_3 ((o0, some 109, o2), sl, n) I L (fun I2 => Q (nI 0) I2)) : C_X10_keep_0 ((o0, some 109, o2), sl, n) (nI 1) I L Q := am_run_ok am_OK (by decide) [] 33 _ _ _ _ _ _ (And.intro (fun q4 => absurd q4 (show ¬ (nI 1) < (nI 0) from by decide)) (fun _ => And.intro (fun _ => And.intro (show vp_in (nI 1) 3 from lm_in (by decide)) (And.intro (show vp_in (nI 1) 3 from lm_in (by decide)) (Exists.intro 0 (Exists.intro 0 (And.intro (Nat.zero_le _) (And.intro (Nat.zero_le _) (am_cV (am_C_d h (by decide)) (fun I2 h6 => And.intro ⟨_, rfl, rfl⟩ ⟨_, _, rfl, rfl, h6⟩)))))))) (fun q5 => absurd (show (nI 1) < (nI 3) from by decide) q5)))
theorem bb_back_1_121 {o0 o2 : Option Nat} {sl n : Nat} {I : Nat → Nat → Int32} {L : Nat → Nat → Int64} {Q : Int32 → (Nat → Nat → Int32) → Prop} (h : C_X7_become_3_121 ((o0, some 121, o2), sl, n) I L (fun I2 => Q (nI 0) (va_up I2 0 (va_up (I2 0) 12 ((I2 0 12) + (nI 1)))))) : C_X10_back_0 ((o0, some 121, o2), sl, n) (nI 1) I L Q := am_run_ok am_OK (by decide) [] 34 _ _ _ _ _ _ (And.intro (fun q4 => absurd q4 (show ¬ (nI 1) < (nI 0) from by decide)) (fun _ => And.intro (fun _ => And.intro (show vp_in (nI 1) 3 from lm_in (by decide)) (And.intro (show vp_in (nI 1) 3 from lm_in (by decide)) (Exists.intro 0 (Exists.intro 0 (And.intro (Nat.zero_le _) (And.intro (Nat.zero_le _) (am_cV (am_C_d h (by decide)) (fun I2 h6 => And.intro ⟨_, rfl, rfl⟩ ⟨_, _, rfl, rfl, h6⟩)))))))) (fun q5 => absurd (show (nI 1) < (nI 3) from by decide) q5)))
theorem bb_keep_1_121 {o0 o2 : Option Nat} {sl n : Nat} {I : Nat → Nat → Int32} {L : Nat → Nat → Int64} {Q : Int32 → (Nat → Nat → Int32) → Prop} (h : C_X7_become_121_3 ((o0, some 121, o2), sl, n) I L (fun I2 => Q (nI 0) I2)) : C_X10_keep_0 ((o0, some 121, o2), sl, n) (nI 1) I L Q := am_run_ok am_OK (by decide) [] 33 _ _ _ _ _ _ (And.intro (fun q4 => absurd q4 (show ¬ (nI 1) < (nI 0) from by decide)) (fun _ => And.intro (fun _ => And.intro (show vp_in (nI 1) 3 from lm_in (by decide)) (And.intro (show vp_in (nI 1) 3 from lm_in (by decide)) (Exists.intro 0 (Exists.intro 0 (And.intro (Nat.zero_le _) (And.intro (Nat.zero_le _) (am_cV (am_C_d h (by decide)) (fun I2 h6 => And.intro ⟨_, rfl, rfl⟩ ⟨_, _, rfl, rfl, h6⟩)))))))) (fun q5 => absurd (show (nI 1) < (nI 3) from by decide) q5)))
theorem bb_backn_1 {o0 o2 : Option Nat} {sl n : Nat} {I : Nat → Nat → Int32} {L : Nat → Nat → Int64} {Q : Int32 → (Nat → Nat → Int32) → Prop} (h : Q (-6 : Int32) I) : C_X10_back_0 ((o0, none, o2), sl, n) (nI 1) I L Q := am_run_ok am_OK (by decide) [] 34 _ _ _ _ _ _ (And.intro (fun q4 => absurd q4 (show ¬ (nI 1) < (nI 0) from by decide)) (fun _ => And.intro (fun _ => And.intro (show vp_in (nI 1) 3 from lm_in (by decide)) (And.intro ⟨_, rfl, rfl⟩ ⟨_, _, rfl, rfl, h⟩)) (fun q5 => absurd (show (nI 1) < (nI 3) from by decide) q5)))
theorem bb_back_2_97 {o0 o1 : Option Nat} {sl n : Nat} {I : Nat → Nat → Int32} {L : Nat → Nat → Int64} {Q : Int32 → (Nat → Nat → Int32) → Prop} (h : C_X7_become_3_97 ((o0, o1, some 97), sl, n) I L (fun I2 => Q (nI 0) (va_up I2 0 (va_up (I2 0) 12 ((I2 0 12) + (nI 1)))))) : C_X10_back_0 ((o0, o1, some 97), sl, n) (nI 2) I L Q := am_run_ok am_OK (by decide) [] 34 _ _ _ _ _ _ (And.intro (fun q4 => absurd q4 (show ¬ (nI 2) < (nI 0) from by decide)) (fun _ => And.intro (fun _ => And.intro (show vp_in (nI 2) 3 from lm_in (by decide)) (And.intro (show vp_in (nI 2) 3 from lm_in (by decide)) (Exists.intro 0 (Exists.intro 0 (And.intro (Nat.zero_le _) (And.intro (Nat.zero_le _) (am_cV (am_C_d h (by decide)) (fun I2 h6 => And.intro ⟨_, rfl, rfl⟩ ⟨_, _, rfl, rfl, h6⟩)))))))) (fun q5 => absurd (show (nI 2) < (nI 3) from by decide) q5)))
theorem bb_keep_2_97 {o0 o1 : Option Nat} {sl n : Nat} {I : Nat → Nat → Int32} {L : Nat → Nat → Int64} {Q : Int32 → (Nat → Nat → Int32) → Prop} (h : C_X7_become_97_3 ((o0, o1, some 97), sl, n) I L (fun I2 => Q (nI 0) I2)) : C_X10_keep_0 ((o0, o1, some 97), sl, n) (nI 2) I L Q := am_run_ok am_OK (by decide) [] 33 _ _ _ _ _ _ (And.intro (fun q4 => absurd q4 (show ¬ (nI 2) < (nI 0) from by decide)) (fun _ => And.intro (fun _ => And.intro (show vp_in (nI 2) 3 from lm_in (by decide)) (And.intro (show vp_in (nI 2) 3 from lm_in (by decide)) (Exists.intro 0 (Exists.intro 0 (And.intro (Nat.zero_le _) (And.intro (Nat.zero_le _) (am_cV (am_C_d h (by decide)) (fun I2 h6 => And.intro ⟨_, rfl, rfl⟩ ⟨_, _, rfl, rfl, h6⟩)))))))) (fun q5 => absurd (show (nI 2) < (nI 3) from by decide) q5)))
theorem bb_back_2_109 {o0 o1 : Option Nat} {sl n : Nat} {I : Nat → Nat → Int32} {L : Nat → Nat → Int64} {Q : Int32 → (Nat → Nat → Int32) → Prop} (h : C_X7_become_3_109 ((o0, o1, some 109), sl, n) I L (fun I2 => Q (nI 0) (va_up I2 0 (va_up (I2 0) 12 ((I2 0 12) + (nI 1)))))) : C_X10_back_0 ((o0, o1, some 109), sl, n) (nI 2) I L Q := am_run_ok am_OK (by decide) [] 34 _ _ _ _ _ _ (And.intro (fun q4 => absurd q4 (show ¬ (nI 2) < (nI 0) from by decide)) (fun _ => And.intro (fun _ => And.intro (show vp_in (nI 2) 3 from lm_in (by decide)) (And.intro (show vp_in (nI 2) 3 from lm_in (by decide)) (Exists.intro 0 (Exists.intro 0 (And.intro (Nat.zero_le _) (And.intro (Nat.zero_le _) (am_cV (am_C_d h (by decide)) (fun I2 h6 => And.intro ⟨_, rfl, rfl⟩ ⟨_, _, rfl, rfl, h6⟩)))))))) (fun q5 => absurd (show (nI 2) < (nI 3) from by decide) q5)))
theorem bb_keep_2_109 {o0 o1 : Option Nat} {sl n : Nat} {I : Nat → Nat → Int32} {L : Nat → Nat → Int64} {Q : Int32 → (Nat → Nat → Int32) → Prop} (h : C_X7_become_109_3 ((o0, o1, some 109), sl, n) I L (fun I2 => Q (nI 0) I2)) : C_X10_keep_0 ((o0, o1, some 109), sl, n) (nI 2) I L Q := am_run_ok am_OK (by decide) [] 33 _ _ _ _ _ _ (And.intro (fun q4 => absurd q4 (show ¬ (nI 2) < (nI 0) from by decide)) (fun _ => And.intro (fun _ => And.intro (show vp_in (nI 2) 3 from lm_in (by decide)) (And.intro (show vp_in (nI 2) 3 from lm_in (by decide)) (Exists.intro 0 (Exists.intro 0 (And.intro (Nat.zero_le _) (And.intro (Nat.zero_le _) (am_cV (am_C_d h (by decide)) (fun I2 h6 => And.intro ⟨_, rfl, rfl⟩ ⟨_, _, rfl, rfl, h6⟩)))))))) (fun q5 => absurd (show (nI 2) < (nI 3) from by decide) q5)))
theorem bb_back_2_121 {o0 o1 : Option Nat} {sl n : Nat} {I : Nat → Nat → Int32} {L : Nat → Nat → Int64} {Q : Int32 → (Nat → Nat → Int32) → Prop} (h : C_X7_become_3_121 ((o0, o1, some 121), sl, n) I L (fun I2 => Q (nI 0) (va_up I2 0 (va_up (I2 0) 12 ((I2 0 12) + (nI 1)))))) : C_X10_back_0 ((o0, o1, some 121), sl, n) (nI 2) I L Q := am_run_ok am_OK (by decide) [] 34 _ _ _ _ _ _ (And.intro (fun q4 => absurd q4 (show ¬ (nI 2) < (nI 0) from by decide)) (fun _ => And.intro (fun _ => And.intro (show vp_in (nI 2) 3 from lm_in (by decide)) (And.intro (show vp_in (nI 2) 3 from lm_in (by decide)) (Exists.intro 0 (Exists.intro 0 (And.intro (Nat.zero_le _) (And.intro (Nat.zero_le _) (am_cV (am_C_d h (by decide)) (fun I2 h6 => And.intro ⟨_, rfl, rfl⟩ ⟨_, _, rfl, rfl, h6⟩)))))))) (fun q5 => absurd (show (nI 2) < (nI 3) from by decide) q5)))
theorem bb_keep_2_121 {o0 o1 : Option Nat} {sl n : Nat} {I : Nat → Nat → Int32} {L : Nat → Nat → Int64} {Q : Int32 → (Nat → Nat → Int32) → Prop} (h : C_X7_become_121_3 ((o0, o1, some 121), sl, n) I L (fun I2 => Q (nI 0) I2)) : C_X10_keep_0 ((o0, o1, some 121), sl, n) (nI 2) I L Q := am_run_ok am_OK (by decide) [] 33 _ _ _ _ _ _ (And.intro (fun q4 => absurd q4 (show ¬ (nI 2) < (nI 0) from by decide)) (fun _ => And.intro (fun _ => And.intro (show vp_in (nI 2) 3 from lm_in (by decide)) (And.intro (show vp_in (nI 2) 3 from lm_in (by decide)) (Exists.intro 0 (Exists.intro 0 (And.intro (Nat.zero_le _) (And.intro (Nat.zero_le _) (am_cV (am_C_d h (by decide)) (fun I2 h6 => And.intro ⟨_, rfl, rfl⟩ ⟨_, _, rfl, rfl, h6⟩)))))))) (fun q5 => absurd (show (nI 2) < (nI 3) from by decide) q5)))
theorem bb_backn_2 {o0 o1 : Option Nat} {sl n : Nat} {I : Nat → Nat → Int32} {L : Nat → Nat → Int64} {Q : Int32 → (Nat → Nat → Int32) → Prop} (h : Q (-6 : Int32) I) : C_X10_back_0 ((o0, o1, none), sl, n) (nI 2) I L Q := am_run_ok am_OK (by decide) [] 34 _ _ _ _ _ _ (And.intro (fun q4 => absurd q4 (show ¬ (nI 2) < (nI 0) from by decide)) (fun _ => And.intro (fun _ => And.intro (show vp_in (nI 2) 3 from lm_in (by decide)) (And.intro ⟨_, rfl, rfl⟩ ⟨_, _, rfl, rfl, h⟩)) (fun q5 => absurd (show (nI 2) < (nI 3) from by decide) q5)))
