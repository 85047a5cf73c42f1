/-! the constructors -/
def tabr (a : Nat) : Nat → Option Nat := fun k => (am_rl.getD a []).getD k none
def rN (c : Nat) (R : Nat → Nat → Option Nat) : Nat → Nat → Option Nat := va_up R c (fun _ => none)
def rSf (a k b : Nat) (R : Nat → Nat → Option Nat) : Nat → Nat → Option Nat := va_up R a (va_up (R a) k (some b))
def iN (c : Nat) (I : Nat → Nat → Int32) : Nat → Nat → Int32 := va_up I c (fun _ => 0)
def iS (a k : Nat) (v : Int32) (I : Nat → Nat → Int32) : Nat → Nat → Int32 := va_up I a (va_up (I a) k v)
def lN0 (c : Nat) (L : Nat → Nat → Int64) : Nat → Nat → Int64 := va_up L c (fun _ => 0)
/-- rows b to b + m - 1 are new, all 0 -/
def frz (b m : Nat) (I J : Nat → Nat → Int32) : Prop := (∀ a, (a < b ∨ b + m ≤ a) → J a = I a) ∧ ∀ a, b ≤ a → a < b + m → ∀ k, J a k = 0
theorem rN_o {c a : Nat} {R : Nat → Nat → Option Nat} (h : a ≠ c) : rN c R a = R a := up_n h
theorem rSf_o {c k b a : Nat} {R : Nat → Nat → Option Nat} (h : a ≠ c) : rSf c k b R a = R a := up_n h
theorem iN_o {c a : Nat} {R : Nat → Nat → Int32} (h : a ≠ c) : iN c R a = R a := up_n h
theorem iS_o {c k a : Nat} {v : Int32} {R : Nat → Nat → Int32} (h : a ≠ c) : iS c k v R a = R a := up_n h
theorem lN0_o {c a : Nat} {R : Nat → Nat → Int64} (h : a ≠ c) : lN0 c R a = R a := up_n h
set_option maxRecDepth 20000 in
theorem k_X7_3 {I : Nat → Nat → Int32} {L : Nat → Nat → Int64} {R : Nat → Nat → Option Nat} {Post : Option Value → am_S → Prop} (hR : ∀ a, 3 ≤ a → a < 15 → R a = tabr a) (h : ∀ J M, frz 3 12 I J → Post none (J, M, R, 14)) : am_C am_P 8 mi_X7_init [.ref 3] (am_new (I, L, R, 2)) 11 1814 Post := by
  have hRr : rSf 3 19 14 (rN 14 (rSf 3 18 13 (rN 13 (rSf 3 17 12 (rN 12 (rSf 3 16 11 (rN 11 (rSf 3 15 10 (rN 10 (rSf 3 14 9 (rN 9 (rSf 3 13 8 (rN 8 (rSf 3 12 7 (rN 7 (rSf 3 11 6 (rN 6 (rSf 3 10 5 (rN 5 (rSf 3 9 4 (rN 4 (rN 3 R)))))))))))))))))))))) = R := by
    funext a
    by_cases h3 : a = 3
    · subst h3
      rw [hR 3 (by decide) (by decide)]
      funext j
      match j with
      | 0 => rfl
      | 1 => rfl
      | 2 => rfl
      | 3 => rfl
      | 4 => rfl
      | 5 => rfl
      | 6 => rfl
      | 7 => rfl
      | 8 => rfl
      | 9 => rfl
      | 10 => rfl
      | 11 => rfl
      | 12 => rfl
      | 13 => rfl
      | 14 => rfl
      | 15 => rfl
      | 16 => rfl
      | 17 => rfl
      | 18 => rfl
      | 19 => rfl
      | j + 20 => rfl
    by_cases h4 : a = 4
    · subst h4
      rw [hR 4 (by decide) (by decide)]
      funext j
      rfl
    by_cases h5 : a = 5
    · subst h5
      rw [hR 5 (by decide) (by decide)]
      funext j
      rfl
    by_cases h6 : a = 6
    · subst h6
      rw [hR 6 (by decide) (by decide)]
      funext j
      rfl
    by_cases h7 : a = 7
    · subst h7
      rw [hR 7 (by decide) (by decide)]
      funext j
      rfl
    by_cases h8 : a = 8
    · subst h8
      rw [hR 8 (by decide) (by decide)]
      funext j
      rfl
    by_cases h9 : a = 9
    · subst h9
      rw [hR 9 (by decide) (by decide)]
      funext j
      rfl
    by_cases h10 : a = 10
    · subst h10
      rw [hR 10 (by decide) (by decide)]
      funext j
      rfl
    by_cases h11 : a = 11
    · subst h11
      rw [hR 11 (by decide) (by decide)]
      funext j
      rfl
    by_cases h12 : a = 12
    · subst h12
      rw [hR 12 (by decide) (by decide)]
      funext j
      rfl
    by_cases h13 : a = 13
    · subst h13
      rw [hR 13 (by decide) (by decide)]
      funext j
      rfl
    by_cases h14 : a = 14
    · subst h14
      rw [hR 14 (by decide) (by decide)]
      funext j
      rfl
    simp only [rSf, rN, va_up, h3, h4, h5, h6, h7, h8, h9, h10, h11, h12, h13, h14, if_false]
  refine am_run_ok am_OK (by decide) [] 80 _ _ _ _ _ _ ?_
  conv => whnf
  refine ⟨rfl, show 1 ≤ 11 from by decide, show 64 ≤ 1814 from by decide, ?_⟩
  conv => whnf
  refine ⟨rfl, show 1 ≤ 10 from by decide, show 8 ≤ 1750 from by decide, ?_⟩
  conv => whnf
  refine ⟨rfl, show 1 ≤ 9 from by decide, show 64 ≤ 1742 from by decide, ?_⟩
  conv => whnf
  refine ⟨rfl, show 1 ≤ 8 from by decide, show 64 ≤ 1678 from by decide, ?_⟩
  conv => whnf
  refine ⟨rfl, show 1 ≤ 7 from by decide, show 512 ≤ 1614 from by decide, ?_⟩
  conv => whnf
  refine ⟨rfl, show 1 ≤ 6 from by decide, show 512 ≤ 1102 from by decide, ?_⟩
  conv => whnf
  refine ⟨rfl, show 1 ≤ 5 from by decide, show 512 ≤ 590 from by decide, ?_⟩
  conv => whnf
  refine ⟨rfl, show 1 ≤ 4 from by decide, show 6 ≤ 78 from by decide, ?_⟩
  conv => whnf
  refine ⟨rfl, show 1 ≤ 3 from by decide, show 6 ≤ 72 from by decide, ?_⟩
  conv => whnf
  refine ⟨rfl, show 1 ≤ 2 from by decide, show 6 ≤ 66 from by decide, ?_⟩
  conv => whnf
  refine ⟨rfl, show 1 ≤ 1 from by decide, show 60 ≤ 60 from by decide, ?_⟩
  conv => whnf
  refine ⟨rfl, ?_⟩
  show Post none (iN 14 (iN 13 (iN 12 (iN 11 (iN 10 (iN 9 (iN 8 (iN 7 (iN 6 (iN 5 (iN 4 (iN 3 I))))))))))), lN0 14 (lN0 13 (lN0 12 (lN0 11 (lN0 10 (lN0 9 (lN0 8 (lN0 7 (lN0 6 (lN0 5 (lN0 4 (lN0 3 L))))))))))), rSf 3 19 14 (rN 14 (rSf 3 18 13 (rN 13 (rSf 3 17 12 (rN 12 (rSf 3 16 11 (rN 11 (rSf 3 15 10 (rN 10 (rSf 3 14 9 (rN 9 (rSf 3 13 8 (rN 8 (rSf 3 12 7 (rN 7 (rSf 3 11 6 (rN 6 (rSf 3 10 5 (rN 5 (rSf 3 9 4 (rN 4 (rN 3 R)))))))))))))))))))))), 14)
  rw [hRr]
  refine h _ _ ⟨fun a ha => ?_, fun a h1 h2 => ?_⟩
  ·
    have h3 : ¬ a = 3 := by omega
    have h4 : ¬ a = 4 := by omega
    have h5 : ¬ a = 5 := by omega
    have h6 : ¬ a = 6 := by omega
    have h7 : ¬ a = 7 := by omega
    have h8 : ¬ a = 8 := by omega
    have h9 : ¬ a = 9 := by omega
    have h10 : ¬ a = 10 := by omega
    have h11 : ¬ a = 11 := by omega
    have h12 : ¬ a = 12 := by omega
    have h13 : ¬ a = 13 := by omega
    have h14 : ¬ a = 14 := by omega
    simp only [iN, iS, va_up, h3, h4, h5, h6, h7, h8, h9, h10, h11, h12, h13, h14, if_false]
  · intro j
    by_cases h3 : a = 3
    · subst h3; rfl
    by_cases h4 : a = 4
    · subst h4; rfl
    by_cases h5 : a = 5
    · subst h5; rfl
    by_cases h6 : a = 6
    · subst h6; rfl
    by_cases h7 : a = 7
    · subst h7; rfl
    by_cases h8 : a = 8
    · subst h8; rfl
    by_cases h9 : a = 9
    · subst h9; rfl
    by_cases h10 : a = 10
    · subst h10; rfl
    by_cases h11 : a = 11
    · subst h11; rfl
    by_cases h12 : a = 12
    · subst h12; rfl
    by_cases h13 : a = 13
    · subst h13; rfl
    have h14 : a = 14 := by omega
    subst h14; rfl
set_option maxRecDepth 20000 in
theorem k_X7_15 {I : Nat → Nat → Int32} {L : Nat → Nat → Int64} {R : Nat → Nat → Option Nat} {Post : Option Value → am_S → Prop} (hR : ∀ a, 15 ≤ a → a < 27 → R a = tabr a) (h : ∀ J M, frz 15 12 I J → Post none (J, M, R, 38)) : am_C am_P 8 mi_X7_init [.ref 15] (am_new (I, L, R, 26)) 11 1814 Post := by
  have hRr : rSf 15 19 26 (rN 26 (rSf 15 18 25 (rN 25 (rSf 15 17 24 (rN 24 (rSf 15 16 23 (rN 23 (rSf 15 15 22 (rN 22 (rSf 15 14 21 (rN 21 (rSf 15 13 20 (rN 20 (rSf 15 12 19 (rN 19 (rSf 15 11 18 (rN 18 (rSf 15 10 17 (rN 17 (rSf 15 9 16 (rN 16 (rN 15 R)))))))))))))))))))))) = R := by
    funext a
    by_cases h15 : a = 15
    · subst h15
      rw [hR 15 (by decide) (by decide)]
      funext j
      match j with
      | 0 => rfl
      | 1 => rfl
      | 2 => rfl
      | 3 => rfl
      | 4 => rfl
      | 5 => rfl
      | 6 => rfl
      | 7 => rfl
      | 8 => rfl
      | 9 => rfl
      | 10 => rfl
      | 11 => rfl
      | 12 => rfl
      | 13 => rfl
      | 14 => rfl
      | 15 => rfl
      | 16 => rfl
      | 17 => rfl
      | 18 => rfl
      | 19 => rfl
      | j + 20 => rfl
    by_cases h16 : a = 16
    · subst h16
      rw [hR 16 (by decide) (by decide)]
      funext j
      rfl
    by_cases h17 : a = 17
    · subst h17
      rw [hR 17 (by decide) (by decide)]
      funext j
      rfl
    by_cases h18 : a = 18
    · subst h18
      rw [hR 18 (by decide) (by decide)]
      funext j
      rfl
    by_cases h19 : a = 19
    · subst h19
      rw [hR 19 (by decide) (by decide)]
      funext j
      rfl
    by_cases h20 : a = 20
    · subst h20
      rw [hR 20 (by decide) (by decide)]
      funext j
      rfl
    by_cases h21 : a = 21
    · subst h21
      rw [hR 21 (by decide) (by decide)]
      funext j
      rfl
    by_cases h22 : a = 22
    · subst h22
      rw [hR 22 (by decide) (by decide)]
      funext j
      rfl
    by_cases h23 : a = 23
    · subst h23
      rw [hR 23 (by decide) (by decide)]
      funext j
      rfl
    by_cases h24 : a = 24
    · subst h24
      rw [hR 24 (by decide) (by decide)]
      funext j
      rfl
    by_cases h25 : a = 25
    · subst h25
      rw [hR 25 (by decide) (by decide)]
      funext j
      rfl
    by_cases h26 : a = 26
    · subst h26
      rw [hR 26 (by decide) (by decide)]
      funext j
      rfl
    simp only [rSf, rN, va_up, h15, h16, h17, h18, h19, h20, h21, h22, h23, h24, h25, h26, if_false]
  refine am_run_ok am_OK (by decide) [] 80 _ _ _ _ _ _ ?_
  conv => whnf
  refine ⟨rfl, show 1 ≤ 11 from by decide, show 64 ≤ 1814 from by decide, ?_⟩
  conv => whnf
  refine ⟨rfl, show 1 ≤ 10 from by decide, show 8 ≤ 1750 from by decide, ?_⟩
  conv => whnf
  refine ⟨rfl, show 1 ≤ 9 from by decide, show 64 ≤ 1742 from by decide, ?_⟩
  conv => whnf
  refine ⟨rfl, show 1 ≤ 8 from by decide, show 64 ≤ 1678 from by decide, ?_⟩
  conv => whnf
  refine ⟨rfl, show 1 ≤ 7 from by decide, show 512 ≤ 1614 from by decide, ?_⟩
  conv => whnf
  refine ⟨rfl, show 1 ≤ 6 from by decide, show 512 ≤ 1102 from by decide, ?_⟩
  conv => whnf
  refine ⟨rfl, show 1 ≤ 5 from by decide, show 512 ≤ 590 from by decide, ?_⟩
  conv => whnf
  refine ⟨rfl, show 1 ≤ 4 from by decide, show 6 ≤ 78 from by decide, ?_⟩
  conv => whnf
  refine ⟨rfl, show 1 ≤ 3 from by decide, show 6 ≤ 72 from by decide, ?_⟩
  conv => whnf
  refine ⟨rfl, show 1 ≤ 2 from by decide, show 6 ≤ 66 from by decide, ?_⟩
  conv => whnf
  refine ⟨rfl, show 1 ≤ 1 from by decide, show 60 ≤ 60 from by decide, ?_⟩
  conv => whnf
  refine ⟨rfl, ?_⟩
  show Post none (iN 26 (iN 25 (iN 24 (iN 23 (iN 22 (iN 21 (iN 20 (iN 19 (iN 18 (iN 17 (iN 16 (iN 15 I))))))))))), lN0 26 (lN0 25 (lN0 24 (lN0 23 (lN0 22 (lN0 21 (lN0 20 (lN0 19 (lN0 18 (lN0 17 (lN0 16 (lN0 15 L))))))))))), rSf 15 19 26 (rN 26 (rSf 15 18 25 (rN 25 (rSf 15 17 24 (rN 24 (rSf 15 16 23 (rN 23 (rSf 15 15 22 (rN 22 (rSf 15 14 21 (rN 21 (rSf 15 13 20 (rN 20 (rSf 15 12 19 (rN 19 (rSf 15 11 18 (rN 18 (rSf 15 10 17 (rN 17 (rSf 15 9 16 (rN 16 (rN 15 R)))))))))))))))))))))), 38)
  rw [hRr]
  refine h _ _ ⟨fun a ha => ?_, fun a h1 h2 => ?_⟩
  ·
    have h15 : ¬ a = 15 := by omega
    have h16 : ¬ a = 16 := by omega
    have h17 : ¬ a = 17 := by omega
    have h18 : ¬ a = 18 := by omega
    have h19 : ¬ a = 19 := by omega
    have h20 : ¬ a = 20 := by omega
    have h21 : ¬ a = 21 := by omega
    have h22 : ¬ a = 22 := by omega
    have h23 : ¬ a = 23 := by omega
    have h24 : ¬ a = 24 := by omega
    have h25 : ¬ a = 25 := by omega
    have h26 : ¬ a = 26 := by omega
    simp only [iN, iS, va_up, h15, h16, h17, h18, h19, h20, h21, h22, h23, h24, h25, h26, if_false]
  · intro j
    by_cases h15 : a = 15
    · subst h15; rfl
    by_cases h16 : a = 16
    · subst h16; rfl
    by_cases h17 : a = 17
    · subst h17; rfl
    by_cases h18 : a = 18
    · subst h18; rfl
    by_cases h19 : a = 19
    · subst h19; rfl
    by_cases h20 : a = 20
    · subst h20; rfl
    by_cases h21 : a = 21
    · subst h21; rfl
    by_cases h22 : a = 22
    · subst h22; rfl
    by_cases h23 : a = 23
    · subst h23; rfl
    by_cases h24 : a = 24
    · subst h24; rfl
    by_cases h25 : a = 25
    · subst h25; rfl
    have h26 : a = 26 := by omega
    subst h26; rfl
set_option maxRecDepth 20000 in
theorem k_X2_29 {I : Nat → Nat → Int32} {L : Nat → Nat → Int64} {R : Nat → Nat → Option Nat} {Post : Option Value → am_S → Prop} (hR : ∀ a, 29 ≤ a → a < 31 → R a = tabr a) (h : ∀ J M, frz 29 2 I J → Post none (J, M, R, 18)) : am_C am_P 8 mi_X2_init [.ref 29] (am_new (I, L, R, 16)) 1 60 Post := by
  have hRr : rSf 29 0 30 (rN 30 (rN 29 R)) = R := by
    funext a
    by_cases h29 : a = 29
    · subst h29
      rw [hR 29 (by decide) (by decide)]
      funext j
      match j with
      | 0 => rfl
      | 1 => rfl
      | 2 => rfl
      | 3 => rfl
      | j + 4 => rfl
    by_cases h30 : a = 30
    · subst h30
      rw [hR 30 (by decide) (by decide)]
      funext j
      rfl
    simp only [rSf, rN, va_up, h29, h30, if_false]
  refine am_run_ok am_OK (by decide) [] 80 _ _ _ _ _ _ ?_
  conv => whnf
  refine ⟨rfl, show 1 ≤ 1 from by decide, show 60 ≤ 60 from by decide, ?_⟩
  conv => whnf
  refine ⟨rfl, ?_⟩
  show Post none (iN 30 (iN 29 I), lN0 30 (lN0 29 L), rSf 29 0 30 (rN 30 (rN 29 R)), 18)
  rw [hRr]
  refine h _ _ ⟨fun a ha => ?_, fun a h1 h2 => ?_⟩
  ·
    have h29 : ¬ a = 29 := by omega
    have h30 : ¬ a = 30 := by omega
    simp only [iN, iS, va_up, h29, h30, if_false]
  · intro j
    by_cases h29 : a = 29
    · subst h29; rfl
    have h30 : a = 30 := by omega
    subst h30; rfl
set_option maxRecDepth 20000 in
theorem k_X2_31 {I : Nat → Nat → Int32} {L : Nat → Nat → Int64} {R : Nat → Nat → Option Nat} {Post : Option Value → am_S → Prop} (hR : ∀ a, 31 ≤ a → a < 33 → R a = tabr a) (h : ∀ J M, frz 31 2 I J → Post none (J, M, R, 20)) : am_C am_P 8 mi_X2_init [.ref 31] (am_new (I, L, R, 18)) 1 60 Post := by
  have hRr : rSf 31 0 32 (rN 32 (rN 31 R)) = R := by
    funext a
    by_cases h31 : a = 31
    · subst h31
      rw [hR 31 (by decide) (by decide)]
      funext j
      match j with
      | 0 => rfl
      | 1 => rfl
      | 2 => rfl
      | 3 => rfl
      | j + 4 => rfl
    by_cases h32 : a = 32
    · subst h32
      rw [hR 32 (by decide) (by decide)]
      funext j
      rfl
    simp only [rSf, rN, va_up, h31, h32, if_false]
  refine am_run_ok am_OK (by decide) [] 80 _ _ _ _ _ _ ?_
  conv => whnf
  refine ⟨rfl, show 1 ≤ 1 from by decide, show 60 ≤ 60 from by decide, ?_⟩
  conv => whnf
  refine ⟨rfl, ?_⟩
  show Post none (iN 32 (iN 31 I), lN0 32 (lN0 31 L), rSf 31 0 32 (rN 32 (rN 31 R)), 20)
  rw [hRr]
  refine h _ _ ⟨fun a ha => ?_, fun a h1 h2 => ?_⟩
  ·
    have h31 : ¬ a = 31 := by omega
    have h32 : ¬ a = 32 := by omega
    simp only [iN, iS, va_up, h31, h32, if_false]
  · intro j
    by_cases h31 : a = 31
    · subst h31; rfl
    have h32 : a = 32 := by omega
    subst h32; rfl
set_option maxRecDepth 20000 in
theorem k_X2_33 {I : Nat → Nat → Int32} {L : Nat → Nat → Int64} {R : Nat → Nat → Option Nat} {Post : Option Value → am_S → Prop} (hR : ∀ a, 33 ≤ a → a < 35 → R a = tabr a) (h : ∀ J M, frz 33 2 I J → Post none (J, M, R, 22)) : am_C am_P 8 mi_X2_init [.ref 33] (am_new (I, L, R, 20)) 1 60 Post := by
  have hRr : rSf 33 0 34 (rN 34 (rN 33 R)) = R := by
    funext a
    by_cases h33 : a = 33
    · subst h33
      rw [hR 33 (by decide) (by decide)]
      funext j
      match j with
      | 0 => rfl
      | 1 => rfl
      | 2 => rfl
      | 3 => rfl
      | j + 4 => rfl
    by_cases h34 : a = 34
    · subst h34
      rw [hR 34 (by decide) (by decide)]
      funext j
      rfl
    simp only [rSf, rN, va_up, h33, h34, if_false]
  refine am_run_ok am_OK (by decide) [] 80 _ _ _ _ _ _ ?_
  conv => whnf
  refine ⟨rfl, show 1 ≤ 1 from by decide, show 60 ≤ 60 from by decide, ?_⟩
  conv => whnf
  refine ⟨rfl, ?_⟩
  show Post none (iN 34 (iN 33 I), lN0 34 (lN0 33 L), rSf 33 0 34 (rN 34 (rN 33 R)), 22)
  rw [hRr]
  refine h _ _ ⟨fun a ha => ?_, fun a h1 h2 => ?_⟩
  ·
    have h33 : ¬ a = 33 := by omega
    have h34 : ¬ a = 34 := by omega
    simp only [iN, iS, va_up, h33, h34, if_false]
  · intro j
    by_cases h33 : a = 33
    · subst h33; rfl
    have h34 : a = 34 := by omega
    subst h34; rfl
set_option maxRecDepth 20000 in
theorem k_X2_35 {I : Nat → Nat → Int32} {L : Nat → Nat → Int64} {R : Nat → Nat → Option Nat} {Post : Option Value → am_S → Prop} (hR : ∀ a, 35 ≤ a → a < 37 → R a = tabr a) (h : ∀ J M, frz 35 2 I J → Post none (J, M, R, 24)) : am_C am_P 8 mi_X2_init [.ref 35] (am_new (I, L, R, 22)) 1 60 Post := by
  have hRr : rSf 35 0 36 (rN 36 (rN 35 R)) = R := by
    funext a
    by_cases h35 : a = 35
    · subst h35
      rw [hR 35 (by decide) (by decide)]
      funext j
      match j with
      | 0 => rfl
      | 1 => rfl
      | 2 => rfl
      | 3 => rfl
      | j + 4 => rfl
    by_cases h36 : a = 36
    · subst h36
      rw [hR 36 (by decide) (by decide)]
      funext j
      rfl
    simp only [rSf, rN, va_up, h35, h36, if_false]
  refine am_run_ok am_OK (by decide) [] 80 _ _ _ _ _ _ ?_
  conv => whnf
  refine ⟨rfl, show 1 ≤ 1 from by decide, show 60 ≤ 60 from by decide, ?_⟩
  conv => whnf
  refine ⟨rfl, ?_⟩
  show Post none (iN 36 (iN 35 I), lN0 36 (lN0 35 L), rSf 35 0 36 (rN 36 (rN 35 R)), 24)
  rw [hRr]
  refine h _ _ ⟨fun a ha => ?_, fun a h1 h2 => ?_⟩
  ·
    have h35 : ¬ a = 35 := by omega
    have h36 : ¬ a = 36 := by omega
    simp only [iN, iS, va_up, h35, h36, if_false]
  · intro j
    by_cases h35 : a = 35
    · subst h35; rfl
    have h36 : a = 36 := by omega
    subst h36; rfl
set_option maxRecDepth 20000 in
theorem k_X9_38 {I : Nat → Nat → Int32} {L : Nat → Nat → Int64} {R : Nat → Nat → Option Nat} {Post : Option Value → am_S → Prop} (hR : ∀ a, 38 ≤ a → a < 43 → R a = tabr a) (h : ∀ J M, frz 38 5 I J → Post none (J, M, R, 43)) : am_C am_P 8 mi_X9_init [.ref 38] (am_new (I, L, R, 38)) 4 232 Post := by
  have hRr : rSf 38 5 42 (rN 42 (rSf 38 4 41 (rN 41 (rSf 38 1 40 (rN 40 (rSf 38 0 39 (rN 39 (rN 38 R)))))))) = R := by
    funext a
    by_cases h38 : a = 38
    · subst h38
      rw [hR 38 (by decide) (by decide)]
      funext j
      match j with
      | 0 => rfl
      | 1 => rfl
      | 2 => rfl
      | 3 => rfl
      | 4 => rfl
      | 5 => rfl
      | j + 6 => rfl
    by_cases h39 : a = 39
    · subst h39
      rw [hR 39 (by decide) (by decide)]
      funext j
      rfl
    by_cases h40 : a = 40
    · subst h40
      rw [hR 40 (by decide) (by decide)]
      funext j
      rfl
    by_cases h41 : a = 41
    · subst h41
      rw [hR 41 (by decide) (by decide)]
      funext j
      rfl
    by_cases h42 : a = 42
    · subst h42
      rw [hR 42 (by decide) (by decide)]
      funext j
      rfl
    simp only [rSf, rN, va_up, h38, h39, h40, h41, h42, if_false]
  refine am_run_ok am_OK (by decide) [] 80 _ _ _ _ _ _ ?_
  conv => whnf
  refine ⟨rfl, show 1 ≤ 4 from by decide, show 64 ≤ 232 from by decide, ?_⟩
  conv => whnf
  refine ⟨rfl, show 1 ≤ 3 from by decide, show 40 ≤ 168 from by decide, ?_⟩
  conv => whnf
  refine ⟨rfl, show 1 ≤ 2 from by decide, show 64 ≤ 128 from by decide, ?_⟩
  conv => whnf
  refine ⟨rfl, show 1 ≤ 1 from by decide, show 64 ≤ 64 from by decide, ?_⟩
  conv => whnf
  refine ⟨rfl, ?_⟩
  show Post none (iN 42 (iN 41 (iN 40 (iN 39 (iN 38 I)))), lN0 42 (lN0 41 (lN0 40 (lN0 39 (lN0 38 L)))), rSf 38 5 42 (rN 42 (rSf 38 4 41 (rN 41 (rSf 38 1 40 (rN 40 (rSf 38 0 39 (rN 39 (rN 38 R)))))))), 43)
  rw [hRr]
  refine h _ _ ⟨fun a ha => ?_, fun a h1 h2 => ?_⟩
  ·
    have h38 : ¬ a = 38 := by omega
    have h39 : ¬ a = 39 := by omega
    have h40 : ¬ a = 40 := by omega
    have h41 : ¬ a = 41 := by omega
    have h42 : ¬ a = 42 := by omega
    simp only [iN, iS, va_up, h38, h39, h40, h41, h42, if_false]
  · intro j
    by_cases h38 : a = 38
    · subst h38; rfl
    by_cases h39 : a = 39
    · subst h39; rfl
    by_cases h40 : a = 40
    · subst h40; rfl
    by_cases h41 : a = 41
    · subst h41; rfl
    have h42 : a = 42 := by omega
    subst h42; rfl
set_option maxRecDepth 20000 in
theorem k_X6_43 {I : Nat → Nat → Int32} {L : Nat → Nat → Int64} {R : Nat → Nat → Option Nat} {Post : Option Value → am_S → Prop} (hR : ∀ a, 43 ≤ a → a < 48 → R a = tabr a) (h : ∀ J M, frz 43 5 I J → Post none (J, M, R, 48)) : am_C am_P 8 mi_X6_init [.ref 43] (am_new (I, L, R, 43)) 4 704 Post := by
  have hRr : rSf 43 4 47 (rN 47 (rSf 43 2 46 (rN 46 (rSf 43 1 45 (rN 45 (rSf 43 0 44 (rN 44 (rN 43 R)))))))) = R := by
    funext a
    by_cases h43 : a = 43
    · subst h43
      rw [hR 43 (by decide) (by decide)]
      funext j
      match j with
      | 0 => rfl
      | 1 => rfl
      | 2 => rfl
      | 3 => rfl
      | 4 => rfl
      | 5 => rfl
      | j + 6 => rfl
    by_cases h44 : a = 44
    · subst h44
      rw [hR 44 (by decide) (by decide)]
      funext j
      rfl
    by_cases h45 : a = 45
    · subst h45
      rw [hR 45 (by decide) (by decide)]
      funext j
      rfl
    by_cases h46 : a = 46
    · subst h46
      rw [hR 46 (by decide) (by decide)]
      funext j
      rfl
    by_cases h47 : a = 47
    · subst h47
      rw [hR 47 (by decide) (by decide)]
      funext j
      rfl
    simp only [rSf, rN, va_up, h43, h44, h45, h46, h47, if_false]
  refine am_run_ok am_OK (by decide) [] 80 _ _ _ _ _ _ ?_
  conv => whnf
  refine ⟨rfl, show 1 ≤ 4 from by decide, show 512 ≤ 704 from by decide, ?_⟩
  conv => whnf
  refine ⟨rfl, show 1 ≤ 3 from by decide, show 64 ≤ 192 from by decide, ?_⟩
  conv => whnf
  refine ⟨rfl, show 1 ≤ 2 from by decide, show 64 ≤ 128 from by decide, ?_⟩
  conv => whnf
  refine ⟨rfl, show 1 ≤ 1 from by decide, show 64 ≤ 64 from by decide, ?_⟩
  conv => whnf
  refine ⟨rfl, ?_⟩
  show Post none (iN 47 (iN 46 (iN 45 (iN 44 (iN 43 I)))), lN0 47 (lN0 46 (lN0 45 (lN0 44 (lN0 43 L)))), rSf 43 4 47 (rN 47 (rSf 43 2 46 (rN 46 (rSf 43 1 45 (rN 45 (rSf 43 0 44 (rN 44 (rN 43 R)))))))), 48)
  rw [hRr]
  refine h _ _ ⟨fun a ha => ?_, fun a h1 h2 => ?_⟩
  ·
    have h43 : ¬ a = 43 := by omega
    have h44 : ¬ a = 44 := by omega
    have h45 : ¬ a = 45 := by omega
    have h46 : ¬ a = 46 := by omega
    have h47 : ¬ a = 47 := by omega
    simp only [iN, iS, va_up, h43, h44, h45, h46, h47, if_false]
  · intro j
    by_cases h43 : a = 43
    · subst h43; rfl
    by_cases h44 : a = 44
    · subst h44; rfl
    by_cases h45 : a = 45
    · subst h45; rfl
    by_cases h46 : a = 46
    · subst h46; rfl
    have h47 : a = 47 := by omega
    subst h47; rfl
set_option maxRecDepth 20000 in
theorem k_X0_48 {I : Nat → Nat → Int32} {L : Nat → Nat → Int64} {R : Nat → Nat → Option Nat} {Post : Option Value → am_S → Prop} (hR : ∀ a, 48 ≤ a → a < 51 → R a = tabr a) (h : ∀ J M, frz 48 3 I J → Post none (J, M, R, 51)) : am_C am_P 8 mi_X0_init [.ref 48] (am_new (I, L, R, 48)) 2 518 Post := by
  have hRr : rSf 48 1 50 (rN 50 (rSf 48 0 49 (rN 49 (rN 48 R)))) = R := by
    funext a
    by_cases h48 : a = 48
    · subst h48
      rw [hR 48 (by decide) (by decide)]
      funext j
      match j with
      | 0 => rfl
      | 1 => rfl
      | 2 => rfl
      | 3 => rfl
      | 4 => rfl
      | 5 => rfl
      | 6 => rfl
      | 7 => rfl
      | 8 => rfl
      | 9 => rfl
      | 10 => rfl
      | 11 => rfl
      | 12 => rfl
      | 13 => rfl
      | 14 => rfl
      | 15 => rfl
      | 16 => rfl
      | 17 => rfl
      | 18 => rfl
      | j + 19 => rfl
    by_cases h49 : a = 49
    · subst h49
      rw [hR 49 (by decide) (by decide)]
      funext j
      rfl
    by_cases h50 : a = 50
    · subst h50
      rw [hR 50 (by decide) (by decide)]
      funext j
      rfl
    simp only [rSf, rN, va_up, h48, h49, h50, if_false]
  refine am_run_ok am_OK (by decide) [] 80 _ _ _ _ _ _ ?_
  conv => whnf
  refine ⟨rfl, show 1 ≤ 2 from by decide, show 512 ≤ 518 from by decide, ?_⟩
  conv => whnf
  refine ⟨rfl, show 1 ≤ 1 from by decide, show 6 ≤ 6 from by decide, ?_⟩
  conv => whnf
  refine ⟨rfl, ?_⟩
  show Post none (iN 50 (iN 49 (iN 48 I)), lN0 50 (lN0 49 (lN0 48 L)), rSf 48 1 50 (rN 50 (rSf 48 0 49 (rN 49 (rN 48 R)))), 51)
  rw [hRr]
  refine h _ _ ⟨fun a ha => ?_, fun a h1 h2 => ?_⟩
  ·
    have h48 : ¬ a = 48 := by omega
    have h49 : ¬ a = 49 := by omega
    have h50 : ¬ a = 50 := by omega
    simp only [iN, iS, va_up, h48, h49, h50, if_false]
  · intro j
    by_cases h48 : a = 48
    · subst h48; rfl
    by_cases h49 : a = 49
    · subst h49; rfl
    have h50 : a = 50 := by omega
    subst h50; rfl
set_option maxRecDepth 20000 in
theorem k_X3_51 {I : Nat → Nat → Int32} {L : Nat → Nat → Int64} {R : Nat → Nat → Option Nat} {Post : Option Value → am_S → Prop} (hR : ∀ a, 51 ≤ a → a < 62 → R a = tabr a) (h : ∀ J M, frz 51 11 I J → Post none (J, M, R, 62)) : am_C am_P 8 mi_X3_init [.ref 51] (am_new (I, L, R, 51)) 10 770 Post := by
  have hRr : rSf 51 3 61 (rN 61 (rSf 51 2 60 (rN 60 (rSf 51 1 53 ((am_new7 (iN 52 (iN 51 I), lN0 52 (lN0 51 L), rSf 51 0 52 (rN 52 (rN 51 R)), 53)).2.2.1))))) = R := by
    funext a
    by_cases h51 : a = 51
    · subst h51
      rw [hR 51 (by decide) (by decide)]
      funext j
      match j with
      | 0 => rfl
      | 1 => rfl
      | 2 => rfl
      | 3 => rfl
      | 4 => rfl
      | 5 => rfl
      | j + 6 => rfl
    by_cases h52 : a = 52
    · subst h52
      rw [hR 52 (by decide) (by decide)]
      funext j
      rfl
    by_cases h53 : a = 53
    · subst h53
      rw [hR 53 (by decide) (by decide)]
      funext j
      match j with
      | 0 => rfl
      | 1 => rfl
      | 2 => rfl
      | 3 => rfl
      | 4 => rfl
      | 5 => rfl
      | j + 6 => rfl
    by_cases h54 : a = 54
    · subst h54
      rw [hR 54 (by decide) (by decide)]
      funext j
      rfl
    by_cases h55 : a = 55
    · subst h55
      rw [hR 55 (by decide) (by decide)]
      funext j
      rfl
    by_cases h56 : a = 56
    · subst h56
      rw [hR 56 (by decide) (by decide)]
      funext j
      rfl
    by_cases h57 : a = 57
    · subst h57
      rw [hR 57 (by decide) (by decide)]
      funext j
      rfl
    by_cases h58 : a = 58
    · subst h58
      rw [hR 58 (by decide) (by decide)]
      funext j
      rfl
    by_cases h59 : a = 59
    · subst h59
      rw [hR 59 (by decide) (by decide)]
      funext j
      rfl
    by_cases h60 : a = 60
    · subst h60
      rw [hR 60 (by decide) (by decide)]
      funext j
      rfl
    by_cases h61 : a = 61
    · subst h61
      rw [hR 61 (by decide) (by decide)]
      funext j
      rfl
    have h53r : ¬ (53 ≤ a ∧ a < 60) := by omega
    simp only [rSf, rN, am_new7, va_up, h53r, h51, h52, h53, h54, h55, h56, h57, h58, h59, h60, h61, if_false]
  refine am_run_ok am_OK (by decide) [] 80 _ _ _ _ _ _ ?_
  conv => whnf
  refine ⟨rfl, show 1 ≤ 10 from by decide, show 512 ≤ 770 from by decide, ?_⟩
  conv => whnf
  refine ⟨rfl, rfl, show 7 ≤ 9 from by decide, show 246 ≤ 258 from by decide, ?_⟩
  conv => whnf
  refine ⟨rfl, show 1 ≤ 2 from by decide, show 6 ≤ 12 from by decide, ?_⟩
  conv => whnf
  refine ⟨rfl, show 1 ≤ 1 from by decide, show 6 ≤ 6 from by decide, ?_⟩
  conv => whnf
  refine ⟨rfl, ?_⟩
  show Post none (iN 61 (iN 60 ((am_new7 (iN 52 (iN 51 I), lN0 52 (lN0 51 L), rSf 51 0 52 (rN 52 (rN 51 R)), 53)).1)), lN0 61 (lN0 60 ((am_new7 (iN 52 (iN 51 I), lN0 52 (lN0 51 L), rSf 51 0 52 (rN 52 (rN 51 R)), 53)).2.1)), rSf 51 3 61 (rN 61 (rSf 51 2 60 (rN 60 (rSf 51 1 53 ((am_new7 (iN 52 (iN 51 I), lN0 52 (lN0 51 L), rSf 51 0 52 (rN 52 (rN 51 R)), 53)).2.2.1))))), 62)
  rw [hRr]
  refine h _ _ ⟨fun a ha => ?_, fun a h1 h2 => ?_⟩
  ·
    have h51 : ¬ a = 51 := by omega
    have h52 : ¬ a = 52 := by omega
    have h53 : ¬ a = 53 := by omega
    have h54 : ¬ a = 54 := by omega
    have h55 : ¬ a = 55 := by omega
    have h56 : ¬ a = 56 := by omega
    have h57 : ¬ a = 57 := by omega
    have h58 : ¬ a = 58 := by omega
    have h59 : ¬ a = 59 := by omega
    have h60 : ¬ a = 60 := by omega
    have h61 : ¬ a = 61 := by omega
    have h53r : ¬ (53 ≤ a ∧ a < 60) := by omega
    simp only [am_new7, iN, iS, va_up, h53r, h51, h52, h53, h54, h55, h56, h57, h58, h59, h60, h61, if_false]
  · intro j
    by_cases h51 : a = 51
    · subst h51; rfl
    by_cases h52 : a = 52
    · subst h52; rfl
    by_cases h53 : a = 53
    · subst h53; rfl
    by_cases h54 : a = 54
    · subst h54; rfl
    by_cases h55 : a = 55
    · subst h55; rfl
    by_cases h56 : a = 56
    · subst h56; rfl
    by_cases h57 : a = 57
    · subst h57; rfl
    by_cases h58 : a = 58
    · subst h58; rfl
    by_cases h59 : a = 59
    · subst h59; rfl
    by_cases h60 : a = 60
    · subst h60; rfl
    have h61 : a = 61 := by omega
    subst h61; rfl
set_option maxRecDepth 20000 in
theorem k_X8_62 {I : Nat → Nat → Int32} {L : Nat → Nat → Int64} {R : Nat → Nat → Option Nat} {Post : Option Value → am_S → Prop} (hR : ∀ a, 62 ≤ a → a < 65 → R a = tabr a) (h : ∀ J M, frz 62 3 I J → Post none (J, M, R, 65)) : am_C am_P 8 mi_X8_init [.ref 62] (am_new (I, L, R, 62)) 2 16 Post := by
  have hRr : rSf 62 1 64 (rN 64 (rSf 62 0 63 (rN 63 (rN 62 R)))) = R := by
    funext a
    by_cases h62 : a = 62
    · subst h62
      rw [hR 62 (by decide) (by decide)]
      funext j
      match j with
      | 0 => rfl
      | 1 => rfl
      | j + 2 => rfl
    by_cases h63 : a = 63
    · subst h63
      rw [hR 63 (by decide) (by decide)]
      funext j
      rfl
    by_cases h64 : a = 64
    · subst h64
      rw [hR 64 (by decide) (by decide)]
      funext j
      rfl
    simp only [rSf, rN, va_up, h62, h63, h64, if_false]
  refine am_run_ok am_OK (by decide) [] 80 _ _ _ _ _ _ ?_
  conv => whnf
  refine ⟨rfl, show 1 ≤ 2 from by decide, show 8 ≤ 16 from by decide, ?_⟩
  conv => whnf
  refine ⟨rfl, show 1 ≤ 1 from by decide, show 8 ≤ 8 from by decide, ?_⟩
  conv => whnf
  refine ⟨rfl, ?_⟩
  show Post none (iN 64 (iN 63 (iN 62 I)), lN0 64 (lN0 63 (lN0 62 L)), rSf 62 1 64 (rN 64 (rSf 62 0 63 (rN 63 (rN 62 R)))), 65)
  rw [hRr]
  refine h _ _ ⟨fun a ha => ?_, fun a h1 h2 => ?_⟩
  ·
    have h62 : ¬ a = 62 := by omega
    have h63 : ¬ a = 63 := by omega
    have h64 : ¬ a = 64 := by omega
    simp only [iN, iS, va_up, h62, h63, h64, if_false]
  · intro j
    by_cases h62 : a = 62
    · subst h62; rfl
    by_cases h63 : a = 63
    · subst h63; rfl
    have h64 : a = 64 := by omega
    subst h64; rfl
set_option maxRecDepth 20000 in
theorem k_X1_65 {I : Nat → Nat → Int32} {L : Nat → Nat → Int64} {R : Nat → Nat → Option Nat} {Post : Option Value → am_S → Prop} (hR : ∀ a, 65 ≤ a → a < 70 → R a = tabr a) (h : ∀ J M, frz 65 5 I J → Post none (J, M, R, 70)) : am_C am_P 8 mi_X1_init [.ref 65] (am_new (I, L, R, 65)) 4 704 Post := by
  have hRr : rSf 65 3 69 (rN 69 (rSf 65 2 68 (rN 68 (rSf 65 1 67 (rN 67 (rSf 65 0 66 (rN 66 (rN 65 R)))))))) = R := by
    funext a
    by_cases h65 : a = 65
    · subst h65
      rw [hR 65 (by decide) (by decide)]
      funext j
      match j with
      | 0 => rfl
      | 1 => rfl
      | 2 => rfl
      | 3 => rfl
      | j + 4 => rfl
    by_cases h66 : a = 66
    · subst h66
      rw [hR 66 (by decide) (by decide)]
      funext j
      rfl
    by_cases h67 : a = 67
    · subst h67
      rw [hR 67 (by decide) (by decide)]
      funext j
      rfl
    by_cases h68 : a = 68
    · subst h68
      rw [hR 68 (by decide) (by decide)]
      funext j
      rfl
    by_cases h69 : a = 69
    · subst h69
      rw [hR 69 (by decide) (by decide)]
      funext j
      rfl
    simp only [rSf, rN, va_up, h65, h66, h67, h68, h69, if_false]
  refine am_run_ok am_OK (by decide) [] 80 _ _ _ _ _ _ ?_
  conv => whnf
  refine ⟨rfl, show 1 ≤ 4 from by decide, show 512 ≤ 704 from by decide, ?_⟩
  conv => whnf
  refine ⟨rfl, show 1 ≤ 3 from by decide, show 64 ≤ 192 from by decide, ?_⟩
  conv => whnf
  refine ⟨rfl, show 1 ≤ 2 from by decide, show 64 ≤ 128 from by decide, ?_⟩
  conv => whnf
  refine ⟨rfl, show 1 ≤ 1 from by decide, show 64 ≤ 64 from by decide, ?_⟩
  conv => whnf
  refine ⟨rfl, ?_⟩
  show Post none (iN 69 (iN 68 (iN 67 (iN 66 (iN 65 I)))), lN0 69 (lN0 68 (lN0 67 (lN0 66 (lN0 65 L)))), rSf 65 3 69 (rN 69 (rSf 65 2 68 (rN 68 (rSf 65 1 67 (rN 67 (rSf 65 0 66 (rN 66 (rN 65 R)))))))), 70)
  rw [hRr]
  refine h _ _ ⟨fun a ha => ?_, fun a h1 h2 => ?_⟩
  ·
    have h65 : ¬ a = 65 := by omega
    have h66 : ¬ a = 66 := by omega
    have h67 : ¬ a = 67 := by omega
    have h68 : ¬ a = 68 := by omega
    have h69 : ¬ a = 69 := by omega
    simp only [iN, iS, va_up, h65, h66, h67, h68, h69, if_false]
  · intro j
    by_cases h65 : a = 65
    · subst h65; rfl
    by_cases h66 : a = 66
    · subst h66; rfl
    by_cases h67 : a = 67
    · subst h67; rfl
    by_cases h68 : a = 68
    · subst h68; rfl
    have h69 : a = 69 := by omega
    subst h69; rfl
set_option maxRecDepth 20000 in
theorem k_X5_70 {I : Nat → Nat → Int32} {L : Nat → Nat → Int64} {R : Nat → Nat → Option Nat} {Post : Option Value → am_S → Prop} (hR : ∀ a, 70 ≤ a → a < 73 → R a = tabr a) (h : ∀ J M, frz 70 3 I J → Post none (J, M, R, 73)) : am_C am_P 8 mi_X5_init [.ref 70] (am_new (I, L, R, 70)) 2 520 Post := by
  have hRr : rSf 70 1 72 (rN 72 (rSf 70 0 71 (rN 71 (rN 70 R)))) = R := by
    funext a
    by_cases h70 : a = 70
    · subst h70
      rw [hR 70 (by decide) (by decide)]
      funext j
      match j with
      | 0 => rfl
      | 1 => rfl
      | 2 => rfl
      | 3 => rfl
      | 4 => rfl
      | j + 5 => rfl
    by_cases h71 : a = 71
    · subst h71
      rw [hR 71 (by decide) (by decide)]
      funext j
      rfl
    by_cases h72 : a = 72
    · subst h72
      rw [hR 72 (by decide) (by decide)]
      funext j
      rfl
    simp only [rSf, rN, va_up, h70, h71, h72, if_false]
  refine am_run_ok am_OK (by decide) [] 80 _ _ _ _ _ _ ?_
  conv => whnf
  refine ⟨rfl, show 1 ≤ 2 from by decide, show 512 ≤ 520 from by decide, ?_⟩
  conv => whnf
  refine ⟨rfl, show 1 ≤ 1 from by decide, show 8 ≤ 8 from by decide, ?_⟩
  conv => whnf
  refine ⟨rfl, ?_⟩
  show Post none (iN 72 (iN 71 (iN 70 I)), lN0 72 (lN0 71 (lN0 70 L)), rSf 70 1 72 (rN 72 (rSf 70 0 71 (rN 71 (rN 70 R)))), 73)
  rw [hRr]
  refine h _ _ ⟨fun a ha => ?_, fun a h1 h2 => ?_⟩
  ·
    have h70 : ¬ a = 70 := by omega
    have h71 : ¬ a = 71 := by omega
    have h72 : ¬ a = 72 := by omega
    simp only [iN, iS, va_up, h70, h71, h72, if_false]
  · intro j
    by_cases h70 : a = 70
    · subst h70; rfl
    by_cases h71 : a = 71
    · subst h71; rfl
    have h72 : a = 72 := by omega
    subst h72; rfl
