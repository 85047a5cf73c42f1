/-! a street laid: the town's side, the class's (here, draft), the reference's -/
def tBs (s : Nat → Nat) (k : Nat) : Bool := decide (0 < s (k / 8)) && decide (0 < s (k % 64))
theorem tBs_t (t : tw) (k : Nat) : tB t k = tBs (t 1) k := rfl
theorem tBs_i {s : Nat → Nat} {k : Nat} : tBs s k = true ↔ 0 < s (k / 8) ∧ 0 < s (k % 64) := by
  unfold tBs
  rw [Bool.and_eq_true, decide_eq_true_iff, decide_eq_true_iff]
def tch (x y k : Nat) : Prop := k / 8 = 8 * x + y ∨ k % 64 = 8 * x + y ∨ k / 8 = 8 * y + x ∨ k % 64 = 8 * y + x
def laS (s : Nat → Nat) (x y n : Nat) : Nat → Nat := va_up (va_up s (8 * x + y) n) (8 * y + x) n
def laV (t : tw) (x y n k : Nat) : Nat := if tBs (laS (t 1) x y n) k = true then (if k / 64 = k % 8 then t 0 2 else t 0 1) else 0
noncomputable def laU (t : tw) (u : Nat → Nat) (x y n k : Nat) : Nat := @ite _ ((t 1 (8 * x + y) = 0 ∨ n = 0) ∧ tch x y k) (Classical.propDecidable _) (laV t x y n k) (u k)
noncomputable def layT (t : tw) (x y n : Nat) : tw := va_up (va_up (va_up t 1 (laS (t 1) x y n)) 2 (laU t (t 2) x y n)) 3 (laU t (t 3) x y n)
theorem layT_1 {t : tw} {x y n : Nat} : layT t x y n 1 = laS (t 1) x y n := rfl
theorem layT_2 {t : tw} {x y n : Nat} : layT t x y n 2 = laU t (t 2) x y n := rfl
theorem layT_3 {t : tw} {x y n : Nat} : layT t x y n 3 = laU t (t 3) x y n := rfl
theorem layT_0 {t : tw} {x y n : Nat} : layT t x y n 0 = t 0 := rfl
theorem layT_4 {t : tw} {x y n : Nat} : layT t x y n 4 = t 4 := rfl
theorem layT_5 {t : tw} {x y n : Nat} : layT t x y n 5 = t 5 := rfl
theorem layT_6 {t : tw} {x y n : Nat} : layT t x y n 6 = t 6 := rfl
theorem layT_7 {t : tw} {x y n : Nat} : layT t x y n 7 = t 7 := rfl
theorem layT_8 {t : tw} {x y n : Nat} : layT t x y n 8 = t 8 := rfl
theorem laS_a {s : Nat → Nat} {x y n : Nat} (hx : x < 8) (hy : y < 8) : laS s x y n (8 * x + y) = n := by
  unfold laS
  by_cases he : 8 * x + y = 8 * y + x
  · rw [he, up_s]
  · rw [up_n he, up_s]
theorem laS_b {s : Nat → Nat} {x y n : Nat} : laS s x y n (8 * y + x) = n := up_s
theorem laS_o {s : Nat → Nat} {x y n k : Nat} (h1 : k ≠ 8 * x + y) (h2 : k ≠ 8 * y + x) : laS s x y n k = s k := by
  unfold laS
  rw [up_n h2, up_n h1]
theorem laS_9 {s : Nat → Nat} {x y n : Nat} (h : ∀ k, k < 64 → s k ≤ 9) (hn : n ≤ 9) : ∀ k, k < 64 → laS s x y n k ≤ 9 := by
  intro k hk
  unfold laS
  by_cases h2 : k = 8 * y + x
  · rw [h2, up_s]; exact hn
  · rw [up_n h2]
    by_cases h1 : k = 8 * x + y
    · rw [h1, up_s]; exact hn
    · rw [up_n h1]; exact h k hk
/-- what isn't touched is a turn as before -/
theorem tBs_o {s : Nat → Nat} {x y n k : Nat} (h : ¬ tch x y k) : tBs (laS s x y n) k = tBs s k := by
  unfold tBs
  unfold tch at h
  rw [laS_o (by omega) (by omega), laS_o (by omega) (by omega)]
theorem tch_0 {s : Nat → Nat} {x y k : Nat} (hx : x < 8) (hy : y < 8) (h : tch x y k) : tBs (laS s x y 0) k = false := by
  cases hb : tBs (laS s x y 0) k with
  | false => rfl
  | true =>
    have h1 := tBs_i.mp hb
    unfold tch at h
    rcases h with h | h | h | h
    · rw [h, laS_a hx hy] at h1; omega
    · rw [h, laS_a hx hy] at h1; omega
    · rw [h, laS_b] at h1; omega
    · rw [h, laS_b] at h1; omega
theorem laU_o {t : tw} {u : Nat → Nat} {x y n k : Nat} (h : ¬ tch x y k) : laU t u x y n k = u k := by
  unfold laU
  rw [if_neg (fun h1 => h h1.2)]
theorem laU_k {t : tw} {u : Nat → Nat} {x y n k : Nat} (h0 : t 1 (8 * x + y) ≠ 0) (hn : n ≠ 0) : laU t u x y n k = u k := by
  unfold laU
  rw [if_neg (fun h1 => h1.1.elim h0 hn)]
theorem laU_t {t : tw} {u : Nat → Nat} {x y n k : Nat} (h0 : t 1 (8 * x + y) = 0 ∨ n = 0) (h : tch x y k) : laU t u x y n k = laV t x y n k := by
  unfold laU
  rw [if_pos ⟨h0, h⟩]
theorem laU_9 {t : tw} {u : Nat → Nat} {x y n k : Nat} (hu : u k ≤ 9) (h1 : t 0 1 ≤ 3) (h2 : t 0 2 ≤ 3) : laU t u x y n k ≤ 9 := by
  unfold laU laV
  split
  · split
    · split <;> omega
    · omega
  · exact hu
theorem arp_la {t : tw} {x y n k : Nat} : arp (layT t x y n) k = decide (0 < laS (t 1) x y n k) := rfl
/-- how many arcs there are then -/
theorem ar_new {t : tw} {x y n : Nat} (hx : x < 8) (hy : y < 8) (hxy : x ≠ y) (h0 : t 1 (8 * x + y) = 0) (h1 : t 1 (8 * y + x) = 0) (hn : 0 < n) : cn (arp (layT t x y n)) 64 = cn (arp t) 64 + 2 := by
  have h2 : cn (arp (layT t x y n)) 64 = cn (va_up (va_up (arp t) (8 * x + y) true) (8 * y + x) true) 64 := cn_c (fun k hk => by
    rw [arp_la]
    by_cases hb : k = 8 * y + x
    · rw [hb, up_s, laS_b]; exact decide_eq_true hn
    · rw [up_n hb]
      by_cases ha : k = 8 * x + y
      · rw [ha, up_s, laS_a hx hy]; exact decide_eq_true hn
      · rw [up_n ha, laS_o ha hb]; rfl)
  rw [h2, cn_u (by omega) (by rw [up_n (by omega)]; exact decide_eq_false (by omega)), cn_u (by omega) (decide_eq_false (by omega))]
theorem ar_old {t : tw} {x y n : Nat} (hx : x < 8) (hy : y < 8) (h0 : 0 < t 1 (8 * x + y)) (h1 : 0 < t 1 (8 * y + x)) (hn : 0 < n) : cn (arp (layT t x y n)) 64 = cn (arp t) 64 := cn_c (fun k hk => by
    rw [arp_la]
    by_cases hb : k = 8 * y + x
    · rw [hb, laS_b, decide_eq_true hn]; exact (decide_eq_true h1).symm
    · by_cases ha : k = 8 * x + y
      · rw [ha, laS_a hx hy, decide_eq_true hn]; exact (decide_eq_true h0).symm
      · rw [laS_o ha hb]; rfl)
theorem ar_gone {t : tw} {x y : Nat} (hx : x < 8) (hy : y < 8) (hxy : x ≠ y) (h0 : 0 < t 1 (8 * x + y)) (h1 : 0 < t 1 (8 * y + x)) : cn (arp t) 64 = cn (arp (layT t x y 0)) 64 + 2 := by
  have h2 : cn (arp t) 64 = cn (va_up (va_up (arp (layT t x y 0)) (8 * x + y) true) (8 * y + x) true) 64 := cn_c (fun k hk => by
    by_cases hb : k = 8 * y + x
    · rw [hb, up_s]; exact decide_eq_true h1
    · rw [up_n hb]
      by_cases ha : k = 8 * x + y
      · rw [ha, up_s]; exact decide_eq_true h0
      · rw [up_n ha, arp_la, laS_o ha hb]; rfl)
  rw [h2, cn_u (by omega) (by rw [up_n (by omega), arp_la, laS_b]; rfl), cn_u (by omega) (by rw [arp_la, laS_a hx hy]; rfl)]
theorem cn_ev {p : Nat → Bool} (hs : ∀ x, x < 8 → ∀ y, y < 8 → p (8 * x + y) = p (8 * y + x)) (hd : ∀ x, x < 8 → p (8 * x + x) = false) : ∃ m, cn p 64 = 2 * m := by
  have e1_0 : p 8 = p 1 := hs 1 (by decide) 0 (by decide)
  have e2_0 : p 16 = p 2 := hs 2 (by decide) 0 (by decide)
  have e3_0 : p 24 = p 3 := hs 3 (by decide) 0 (by decide)
  have e4_0 : p 32 = p 4 := hs 4 (by decide) 0 (by decide)
  have e5_0 : p 40 = p 5 := hs 5 (by decide) 0 (by decide)
  have e6_0 : p 48 = p 6 := hs 6 (by decide) 0 (by decide)
  have e7_0 : p 56 = p 7 := hs 7 (by decide) 0 (by decide)
  have e2_1 : p 17 = p 10 := hs 2 (by decide) 1 (by decide)
  have e3_1 : p 25 = p 11 := hs 3 (by decide) 1 (by decide)
  have e4_1 : p 33 = p 12 := hs 4 (by decide) 1 (by decide)
  have e5_1 : p 41 = p 13 := hs 5 (by decide) 1 (by decide)
  have e6_1 : p 49 = p 14 := hs 6 (by decide) 1 (by decide)
  have e7_1 : p 57 = p 15 := hs 7 (by decide) 1 (by decide)
  have e3_2 : p 26 = p 19 := hs 3 (by decide) 2 (by decide)
  have e4_2 : p 34 = p 20 := hs 4 (by decide) 2 (by decide)
  have e5_2 : p 42 = p 21 := hs 5 (by decide) 2 (by decide)
  have e6_2 : p 50 = p 22 := hs 6 (by decide) 2 (by decide)
  have e7_2 : p 58 = p 23 := hs 7 (by decide) 2 (by decide)
  have e4_3 : p 35 = p 28 := hs 4 (by decide) 3 (by decide)
  have e5_3 : p 43 = p 29 := hs 5 (by decide) 3 (by decide)
  have e6_3 : p 51 = p 30 := hs 6 (by decide) 3 (by decide)
  have e7_3 : p 59 = p 31 := hs 7 (by decide) 3 (by decide)
  have e5_4 : p 44 = p 37 := hs 5 (by decide) 4 (by decide)
  have e6_4 : p 52 = p 38 := hs 6 (by decide) 4 (by decide)
  have e7_4 : p 60 = p 39 := hs 7 (by decide) 4 (by decide)
  have e6_5 : p 53 = p 46 := hs 6 (by decide) 5 (by decide)
  have e7_5 : p 61 = p 47 := hs 7 (by decide) 5 (by decide)
  have e7_6 : p 62 = p 55 := hs 7 (by decide) 6 (by decide)
  have d0 : p 0 = false := hd 0 (by decide)
  have d1 : p 9 = false := hd 1 (by decide)
  have d2 : p 18 = false := hd 2 (by decide)
  have d3 : p 27 = false := hd 3 (by decide)
  have d4 : p 36 = false := hd 4 (by decide)
  have d5 : p 45 = false := hd 5 (by decide)
  have d6 : p 54 = false := hd 6 (by decide)
  have d7 : p 63 = false := hd 7 (by decide)
  have hc : cn p 64 = (if p 0 = true then 1 else 0) + (if p 1 = true then 1 else 0) + (if p 2 = true then 1 else 0) + (if p 3 = true then 1 else 0) + (if p 4 = true then 1 else 0) + (if p 5 = true then 1 else 0) + (if p 6 = true then 1 else 0) + (if p 7 = true then 1 else 0) + (if p 8 = true then 1 else 0) + (if p 9 = true then 1 else 0) + (if p 10 = true then 1 else 0) + (if p 11 = true then 1 else 0) + (if p 12 = true then 1 else 0) + (if p 13 = true then 1 else 0) + (if p 14 = true then 1 else 0) + (if p 15 = true then 1 else 0) + (if p 16 = true then 1 else 0) + (if p 17 = true then 1 else 0) + (if p 18 = true then 1 else 0) + (if p 19 = true then 1 else 0) + (if p 20 = true then 1 else 0) + (if p 21 = true then 1 else 0) + (if p 22 = true then 1 else 0) + (if p 23 = true then 1 else 0) + (if p 24 = true then 1 else 0) + (if p 25 = true then 1 else 0) + (if p 26 = true then 1 else 0) + (if p 27 = true then 1 else 0) + (if p 28 = true then 1 else 0) + (if p 29 = true then 1 else 0) + (if p 30 = true then 1 else 0) + (if p 31 = true then 1 else 0) + (if p 32 = true then 1 else 0) + (if p 33 = true then 1 else 0) + (if p 34 = true then 1 else 0) + (if p 35 = true then 1 else 0) + (if p 36 = true then 1 else 0) + (if p 37 = true then 1 else 0) + (if p 38 = true then 1 else 0) + (if p 39 = true then 1 else 0) + (if p 40 = true then 1 else 0) + (if p 41 = true then 1 else 0) + (if p 42 = true then 1 else 0) + (if p 43 = true then 1 else 0) + (if p 44 = true then 1 else 0) + (if p 45 = true then 1 else 0) + (if p 46 = true then 1 else 0) + (if p 47 = true then 1 else 0) + (if p 48 = true then 1 else 0) + (if p 49 = true then 1 else 0) + (if p 50 = true then 1 else 0) + (if p 51 = true then 1 else 0) + (if p 52 = true then 1 else 0) + (if p 53 = true then 1 else 0) + (if p 54 = true then 1 else 0) + (if p 55 = true then 1 else 0) + (if p 56 = true then 1 else 0) + (if p 57 = true then 1 else 0) + (if p 58 = true then 1 else 0) + (if p 59 = true then 1 else 0) + (if p 60 = true then 1 else 0) + (if p 61 = true then 1 else 0) + (if p 62 = true then 1 else 0) + (if p 63 = true then 1 else 0) := by
    simp only [cn, Nat.zero_add]
  rw [e1_0, e2_0, e3_0, e4_0, e5_0, e6_0, e7_0, e2_1, e3_1, e4_1, e5_1, e6_1, e7_1, e3_2, e4_2, e5_2, e6_2, e7_2, e4_3, e5_3, e6_3, e7_3, e5_4, e6_4, e7_4, e6_5, e7_5, e7_6, d0, d1, d2, d3, d4, d5, d6, d7] at hc
  simp only [Bool.false_eq_true, if_false] at hc
  exact ⟨(if p 1 = true then 1 else 0) + (if p 2 = true then 1 else 0) + (if p 3 = true then 1 else 0) + (if p 4 = true then 1 else 0) + (if p 5 = true then 1 else 0) + (if p 6 = true then 1 else 0) + (if p 7 = true then 1 else 0) + (if p 10 = true then 1 else 0) + (if p 11 = true then 1 else 0) + (if p 12 = true then 1 else 0) + (if p 13 = true then 1 else 0) + (if p 14 = true then 1 else 0) + (if p 15 = true then 1 else 0) + (if p 19 = true then 1 else 0) + (if p 20 = true then 1 else 0) + (if p 21 = true then 1 else 0) + (if p 22 = true then 1 else 0) + (if p 23 = true then 1 else 0) + (if p 28 = true then 1 else 0) + (if p 29 = true then 1 else 0) + (if p 30 = true then 1 else 0) + (if p 31 = true then 1 else 0) + (if p 37 = true then 1 else 0) + (if p 38 = true then 1 else 0) + (if p 39 = true then 1 else 0) + (if p 46 = true then 1 else 0) + (if p 47 = true then 1 else 0) + (if p 55 = true then 1 else 0), by omega⟩
theorem tok_lay {t : tw} {x y n : Nat} (hk : tok t) (hx : x < t 0 0) (hy : y < t 0 0) (hxy : x ≠ y) (hn : n ≤ 9) (ha : t 0 5 = 0) (hr : t 1 (8 * x + y) = 0 → 0 < n → (ar t).length / 2 < 14) : tok (layT t x y n) := by
  obtain ⟨o0, oT, oZ, oY, oD, o9, oN, o28, oB, oX, oE, oF, oA, oH, oU, oV⟩ := hk
  have hx8 : x < 8 := by omega
  have hy8 : y < 8 := by omega
  have hsym := oY x hx8 y hy8
  refine ⟨o0, oT, oZ, fun p hp q hq => ?_, fun p hp => ?_, laS_9 o9 hn, fun p hp q hq h => ?_, ?_, fun k hk5 => ⟨laU_9 (oB k hk5).1 oU oV, laU_9 (oB k hk5).2 oU oV⟩, fun k hk5 hb => ?_, oE, oF, oA, ?_, oU, oV⟩
  · show laS (t 1) x y n (8 * p + q) = laS (t 1) x y n (8 * q + p)
    by_cases h1 : p = x ∧ q = y
    · rw [h1.1, h1.2, laS_a hx8 hy8, laS_b]
    · by_cases h2 : p = y ∧ q = x
      · rw [h2.1, h2.2, laS_a hx8 hy8, laS_b]
      · rw [laS_o (by omega) (by omega), laS_o (by omega) (by omega)]
        exact oY p hp q hq
  · show laS (t 1) x y n (8 * p + p) = 0
    rw [laS_o (by omega) (by omega)]
    exact oD p hp
  · have h' : 0 < laS (t 1) x y n (8 * p + q) := h
    show p < t 0 0 ∧ q < t 0 0
    by_cases h1 : p = x ∧ q = y
    · omega
    · by_cases h2 : p = y ∧ q = x
      · omega
      · rw [laS_o (by omega) (by omega)] at h'
        exact oN p hp q hq h'
  · rw [cn_fl]
    rw [cn_fl] at o28
    rw [cn_fl] at hr
    by_cases hn0 : n = 0
    · refine Nat.le_trans (cn_le (fun k hk5 hp => ?_)) o28
      rw [arp_la] at hp
      have hp2 := of_decide_eq_true hp
      by_cases hb : k = 8 * y + x
      · rw [hb, laS_b] at hp2; omega
      · by_cases ha2 : k = 8 * x + y
        · rw [ha2, laS_a hx8 hy8] at hp2; omega
        · rw [laS_o ha2 hb] at hp2
          exact decide_eq_true hp2
    · by_cases h0 : t 1 (8 * x + y) = 0
      · rw [ar_new hx8 hy8 hxy h0 (by omega) (by omega)]
        have h5 := hr h0 (by omega)
        obtain ⟨m, hm⟩ := cn_ev (p := arp t) (fun p hp q hq => by unfold arp; rw [oY p hp q hq]) (fun p hp => decide_eq_false (by rw [oD p hp]; omega))
        omega
      · rw [ar_old hx8 hy8 (by omega) (by omega) (by omega)]
        exact o28
  · show laU t (t 3) x y n k = 0
    have hb2 : tBs (laS (t 1) x y n) k = false := hb
    by_cases hc : tch x y k
    · by_cases h0 : t 1 (8 * x + y) = 0 ∨ n = 0
      · rw [laU_t h0 hc]
        unfold laV
        rw [if_neg (by rw [hb2]; decide)]
      · have hnz : t 1 (8 * x + y) ≠ 0 ∧ n ≠ 0 := ⟨fun h => h0 (Or.inl h), fun h => h0 (Or.inr h)⟩
        have h3 : tB t k = true ∨ tB t k = false := by cases tB t k <;> simp
        have heq : ∀ a, (0 < laS (t 1) x y n a) ↔ (0 < t 1 a) := by
          intro a
          by_cases hb3 : a = 8 * y + x
          · rw [hb3, laS_b]; constructor <;> intro _ <;> omega
          · by_cases ha2 : a = 8 * x + y
            · rw [ha2, laS_a hx8 hy8]; constructor <;> intro _ <;> omega
            · rw [laS_o ha2 hb3]
        rcases h3 with h3 | h3
        · have h4 := tB_i.mp h3
          have h5 : tBs (laS (t 1) x y n) k = true := tBs_i.mpr ⟨(heq _).mpr h4.1, (heq _).mpr h4.2⟩
          rw [hb2] at h5; cases h5
        · rw [laU_k hnz.1 hnz.2]
          exact oX k hk5 h3
    · rw [laU_o hc]
      rw [tBs_o hc] at hb2
      exact oX k hk5 hb2
  · show hst _ (t 0 5) _
    rw [ha]
    trivial
theorem c_forget_3 {e : am_V} {I : Nat → Nat → Int32} {L : Nat → Nat → Int64} {Q : (Nat → Nat → Int32) → Prop} {x y a1 a2 : Nat} (hx : x < 8) (hy : y < 8) (h1 : I 3 1 = nI a1) (h2 : I 3 2 = nI a2) (hQ : ∀ J, (∀ a, a ≠ 9 → a ≠ 10 → J a = I a) → (∀ k, k < 512 → (k / 8 = 8 * x + y ∨ k % 64 = 8 * x + y) → J 9 k = nI (if k / 64 = k % 8 then a2 else a1) ∧ J 10 k = nI (if k / 64 = k % 8 then a2 else a1)) → (∀ k, k < 512 → ¬ (k / 8 = 8 * x + y ∨ k % 64 = 8 * x + y) → J 9 k = I 9 k ∧ J 10 k = I 10 k) → Q J) : C_X7_forgetTurns_3 e (nI x) (nI y) I L Q := by
  refine b_X7_forgetTurns_3 ?_
  simp (disch := omega) only [pk_mul, nI_add, ksub, kdv, kd8, kd64, kd2, kd3, km8, km64, kt8, ke8, ke64, kcl, kin, kle, klt, keq, up_s, up_n, up_u, true_and, and_true, false_implies, true_implies, not_false_eq_true, not_true_eq_false]
  refine lp_up (n := 8) (S := Nat → Nat → Int32) (T := fun z J => T_X7_forgetTurns_3_p9 e (nI x) (nI y) (nI (8 * x + y)) (nI z) J L Q) (fun z J => (∀ a, a ≠ 9 → a ≠ 10 → J a = I a) ∧ (∀ k, k < 512 → (k / 8 = 8 * x + y ∧ k % 8 < z ∨ k % 64 = 8 * x + y ∧ k / 64 < z) → J 9 k = nI (if k / 64 = k % 8 then a2 else a1) ∧ J 10 k = nI (if k / 64 = k % 8 then a2 else a1)) ∧ (∀ k, k < 512 → ¬ (k / 8 = 8 * x + y ∨ k % 64 = 8 * x + y) → J 9 k = I 9 k ∧ J 10 k = I 10 k)) ?_ ?_ 0 I (Nat.zero_le _) ⟨fun _ _ _ => rfl, fun k hk h => by omega, fun _ _ _ => ⟨rfl, rfl⟩⟩
  · rintro z J hz ⟨i1, i2, i3⟩ hnext
    have e1 : J 3 1 = nI a1 := by rw [i1 3 (by decide) (by decide)]; exact h1
    have e2 : J 3 2 = nI a2 := by rw [i1 3 (by decide) (by decide)]; exact h2
    have q1 : (8 ≤ z) = False := eq_false (by omega)
    have hfin : ∀ v1 v2 J', J' = (va_up (va_up (va_up (va_up J 9 (va_up (J 9) (64 * x + 8 * y + z) (nI v1))) 10 (va_up (J 10) (64 * x + 8 * y + z) (nI v1))) 9 (va_up (va_up (J 9) (64 * x + 8 * y + z) (nI v1)) (64 * z + (8 * x + y)) (nI v2))) 10 (va_up (va_up (J 10) (64 * x + 8 * y + z) (nI v1)) (64 * z + (8 * x + y)) (nI v2))) → v1 = (if z = x then a2 else a1) → v2 = (if z = y then a2 else a1) → T_X7_forgetTurns_3_p9 e (nI x) (nI y) (nI (8 * x + y)) (nI (z + 1)) J' L Q := by
      intro v1 v2 J' hJ hv1 hv2
      have r6 : J' 9 = va_up (va_up (J 9) (64 * x + 8 * y + z) (nI v1)) (64 * z + (8 * x + y)) (nI v2) := by rw [hJ]; rfl
      have r7 : J' 10 = va_up (va_up (J 10) (64 * x + 8 * y + z) (nI v1)) (64 * z + (8 * x + y)) (nI v2) := by rw [hJ]; rfl
      refine hnext J' ⟨fun a n1 n2 => by rw [hJ, up_n n2, up_n n1, up_n n2, up_n n1]; exact i1 a n1 n2, fun k hk h => ?_, fun k hk h => ?_⟩
      · rw [r6, r7]
        by_cases hb : k = 64 * z + (8 * x + y)
        · rw [hb, up_s, up_s, hv2, show (64 * z + (8 * x + y)) / 64 = z from by omega, show (64 * z + (8 * x + y)) % 8 = y from by omega]
          exact ⟨rfl, rfl⟩
        · rw [up_n hb, up_n hb]
          by_cases ha : k = 64 * x + 8 * y + z
          · rw [ha, up_s, up_s, hv1, show (64 * x + 8 * y + z) / 64 = x from by omega, show (64 * x + 8 * y + z) % 8 = z from by omega]
            by_cases hxz : x = z
            · rw [if_pos hxz, if_pos hxz.symm]; exact ⟨rfl, rfl⟩
            · rw [if_neg hxz, if_neg (fun h => hxz h.symm)]; exact ⟨rfl, rfl⟩
          · rw [up_n ha, up_n ha]; exact i2 k hk (by omega)
      · rw [r6, r7, up_n (by omega), up_n (by omega), up_n (by omega), up_n (by omega)]
        exact i3 k hk h
    by_cases hzx : z = x
    · have q2 := eq_true hzx
      by_cases hzy : z = y
      · have q3 := eq_true hzy
        refine b_X7_forgetTurns_3_p9 ?_
        simp (disch := omega) only [pk_mul, nI_add, ksub, kdv, kd8, kd64, kd2, kd3, km8, km64, kt8, ke8, ke64, kcl, kin, kle, klt, keq, up_s, up_n, up_u, true_and, and_true, false_implies, true_implies, not_false_eq_true, not_true_eq_false, q1, q2, q3, e1, e2]
        exact hfin a2 a2 _ rfl (by rw [if_pos hzx]) (by rw [if_pos hzy])
      · have q3 := eq_false hzy
        refine b_X7_forgetTurns_3_p9 ?_
        simp (disch := omega) only [pk_mul, nI_add, ksub, kdv, kd8, kd64, kd2, kd3, km8, km64, kt8, ke8, ke64, kcl, kin, kle, klt, keq, up_s, up_n, up_u, true_and, and_true, false_implies, true_implies, not_false_eq_true, not_true_eq_false, q1, q2, q3, e1, e2]
        exact hfin a2 a1 _ rfl (by rw [if_pos hzx]) (by rw [if_neg hzy])
    · have q2 := eq_false hzx
      by_cases hzy : z = y
      · have q3 := eq_true hzy
        refine b_X7_forgetTurns_3_p9 ?_
        simp (disch := omega) only [pk_mul, nI_add, ksub, kdv, kd8, kd64, kd2, kd3, km8, km64, kt8, ke8, ke64, kcl, kin, kle, klt, keq, up_s, up_n, up_u, true_and, and_true, false_implies, true_implies, not_false_eq_true, not_true_eq_false, q1, q2, q3, e1, e2]
        exact hfin a1 a2 _ rfl (by rw [if_neg hzx]) (by rw [if_pos hzy])
      · have q3 := eq_false hzy
        refine b_X7_forgetTurns_3_p9 ?_
        simp (disch := omega) only [pk_mul, nI_add, ksub, kdv, kd8, kd64, kd2, kd3, km8, km64, kt8, ke8, ke64, kcl, kin, kle, klt, keq, up_s, up_n, up_u, true_and, and_true, false_implies, true_implies, not_false_eq_true, not_true_eq_false, q1, q2, q3, e1, e2]
        exact hfin a1 a1 _ rfl (by rw [if_neg hzx]) (by rw [if_neg hzy])
  · rintro J ⟨i1, i2, i3⟩
    exact b_X7_forgetTurns_3_p9 ⟨fun _ => hQ J i1 (fun k hk h => i2 k hk (by omega)) i3, fun h => absurd (show nI 8 ≤ nI 8 from by decide) h⟩
/-- a street laid in the class's town 3 -/
theorem c_layStreet_3 {e : am_V} {I : Nat → Nat → Int32} {L : Nat → Nat → Int64} {Q : (Nat → Nat → Int32) → Prop} {t : tw} {x y n : Nat} (hk : tok t) (hx : x < 8) (hy : y < 8) (hxy : x ≠ y) (hn : n ≤ 9) (hz : t 1 (8 * x + y) = 0 → 0 < n) (h1 : I 3 1 = nI (t 0 1)) (h2 : I 3 2 = nI (t 0 2)) (h4 : I 3 4 = nI (cn (arp t) 64 / 2)) (hS : ∀ k, k < 64 → I 4 k = nI (t 1 k)) (hU : ∀ k, k < 512 → tB t k = true → I 9 k = nI (t 2 k) ∧ I 10 k = nI (t 3 k)) (hQ : ∀ J, (∀ a, a ≠ 3 → a ≠ 4 → a ≠ 9 → a ≠ 10 → J a = I a) → (∀ k, k ≠ 4 → J 3 k = I 3 k) → J 3 4 = nI (cn (arp (layT t x y n)) 64 / 2) → (∀ k, k < 64 → J 4 k = nI (layT t x y n 1 k)) → (∀ k, k < 512 → tB (layT t x y n) k = true → J 9 k = nI (layT t x y n 2 k) ∧ J 10 k = nI (layT t x y n 3 k)) → Q J) : C_X7_layStreet_3 e (nI x) (nI y) (nI n) I L Q := by
  obtain ⟨o0, oT, oZ, oY, oD, o9, oN, o28, oB, oX, oE, oF, oA, oH, oU, oV⟩ := hk
  have hsym := oY x hx y hy
  have eS := hS (8 * x + y) (by omega)
  have b1 := o9 (8 * x + y) (by omega)
  have hrow : ∀ k, k < 64 → va_up (va_up (I 4) (8 * x + y) (nI n)) (8 * y + x) (nI n) k = nI (laS (t 1) x y n k) := by
    intro k hk
    unfold laS
    by_cases hb : k = 8 * y + x
    · rw [hb, up_s, up_s]
    · rw [up_n hb, up_n hb]
      by_cases ha : k = 8 * x + y
      · rw [ha, up_s, up_s]
      · rw [up_n ha, up_n ha]; exact hS k hk
  have hcb : cn (arp t) 64 ≤ 64 := cn_n _ _
  have hkeep : ∀ k, k < 512 → tB (layT t x y n) k = true → (¬ tch x y k ∨ (t 1 (8 * x + y) ≠ 0 ∧ n ≠ 0)) → I 9 k = nI (layT t x y n 2 k) ∧ I 10 k = nI (layT t x y n 3 k) := by
    intro k hk5 hb hc
    rw [layT_2, layT_3]
    by_cases hc2 : tch x y k
    · have hc3 : t 1 (8 * x + y) ≠ 0 ∧ n ≠ 0 := hc.resolve_left (fun h => h hc2)
      rw [laU_k hc3.1 hc3.2, laU_k hc3.1 hc3.2]
      have heq : ∀ a, 0 < laS (t 1) x y n a → 0 < t 1 a := by
        intro a h
        by_cases hb3 : a = 8 * y + x
        · rw [hb3]; omega
        · by_cases ha2 : a = 8 * x + y
          · rw [ha2]; omega
          · rw [laS_o ha2 hb3] at h; exact h
      have hb2 := tBs_i.mp (show tBs (laS (t 1) x y n) k = true from hb)
      exact hU k hk5 (tB_i.mpr ⟨heq _ hb2.1, heq _ hb2.2⟩)
    · rw [laU_o hc2, laU_o hc2]
      have hb2 : tBs (laS (t 1) x y n) k = true := hb
      rw [tBs_o hc2] at hb2
      exact hU k hk5 hb2
  refine b_X7_layStreet_3 ?_
  by_cases h0 : t 1 (8 * x + y) ≤ 0
  · have hnp := hz (by omega)
    have q1 := eq_true h0
    have q2 : (n ≤ 0) = False := eq_false (by omega)
    have hcn := ar_new (t := t) (n := n) hx hy hxy (by omega) (by omega) hnp
    simp (disch := omega) only [pk_mul, nI_add, ksub, kdv, kd8, kd64, kd2, kd3, km8, km64, kt8, ke8, ke64, kcl, kin, kle, klt, keq, up_s, up_n, up_u, true_and, and_true, false_implies, true_implies, not_false_eq_true, not_true_eq_false, eS, q1, q2, h4]
    refine c_forget_3 hx hy h1 h2 (fun J1 a1 a2 a3 => ?_)
    refine c_forget_3 (a1 := t 0 1) (a2 := t 0 2) hy hx (by rw [a1 3 (by decide) (by decide)]; exact h1) (by rw [a1 3 (by decide) (by decide)]; exact h2) (fun J2 b1 b2 b3 => ?_)
    refine hQ J2 (fun a n1 n2 n3 n4 => ?_) (fun k hk4 => ?_) ?_ (fun k hk6 => ?_) (fun k hk5 hb => ?_)
    · rw [b1 a n3 n4, a1 a n3 n4, up_n n1, up_n n2]
    · rw [b1 3 (by decide) (by decide), a1 3 (by decide) (by decide)]
      show va_up (I 3) 4 _ k = _
      rw [up_n hk4]
    · rw [b1 3 (by decide) (by decide), a1 3 (by decide) (by decide)]
      show va_up (I 3) 4 _ 4 = _
      rw [up_s, hcn, show (cn (arp t) 64 + 2) / 2 = cn (arp t) 64 / 2 + 1 from by omega]
      exact up_s
    · rw [b1 4 (by decide) (by decide), a1 4 (by decide) (by decide)]
      exact hrow k hk6
    · by_cases hc : tch x y k
      · have hv : laV t x y n k = if k / 64 = k % 8 then t 0 2 else t 0 1 := by
          unfold laV
          rw [if_pos (show tBs (laS (t 1) x y n) k = true from hb)]
        rw [layT_2, layT_3, laU_t (Or.inl (by omega)) hc, laU_t (Or.inl (by omega)) hc, hv]
        by_cases hc2 : k / 8 = 8 * y + x ∨ k % 64 = 8 * y + x
        · exact b2 k hk5 hc2
        · rw [(b3 k hk5 hc2).1, (b3 k hk5 hc2).2]
          refine a2 k hk5 ?_
          unfold tch at hc
          omega
      · have hc' := hc
        unfold tch at hc'
        rw [(b3 k hk5 (by omega)).1, (b3 k hk5 (by omega)).2, (a3 k hk5 (by omega)).1, (a3 k hk5 (by omega)).2]
        exact hkeep k hk5 hb (Or.inl hc)
  · have q1 := eq_false h0
    by_cases hn0 : n = 0
    · have q2 := eq_true hn0
      have hcn := ar_gone (t := t) hx hy hxy (by omega) (by omega)
      simp (disch := omega) only [pk_mul, nI_add, ksub, kdv, kd8, kd64, kd2, kd3, km8, km64, kt8, ke8, ke64, kcl, kin, kle, klt, keq, up_s, up_n, up_u, true_and, and_true, false_implies, true_implies, not_false_eq_true, not_true_eq_false, eS, q1, q2, h4]
      refine hQ _ (fun a n1 n2 n3 n4 => ?_) (fun k hk4 => ?_) ?_ (fun k hk6 => ?_) (fun k hk5 hb => ?_)
      · rw [up_n n1, up_n n2]
      · show va_up (I 3) 4 _ k = _
        rw [up_n hk4]
      · show va_up (I 3) 4 _ 4 = _
        rw [hn0, ← show cn (arp t) 64 / 2 - 1 = cn (arp (layT t x y 0)) 64 / 2 from by omega]
        exact up_s
      · exact hrow k hk6
      · refine hkeep k hk5 hb (Or.inl (fun hc => ?_))
        rw [hn0] at hb
        have h5 := tch_0 (s := t 1) hx hy hc
        rw [show tB (layT t x y 0) k = tBs (laS (t 1) x y 0) k from rfl, h5] at hb
        cases hb
    · have q2 := eq_false hn0
      have hcn := ar_old (t := t) (n := n) hx hy (by omega) (by omega) (by omega)
      simp (disch := omega) only [pk_mul, nI_add, ksub, kdv, kd8, kd64, kd2, kd3, km8, km64, kt8, ke8, ke64, kcl, kin, kle, klt, keq, up_s, up_n, up_u, true_and, and_true, false_implies, true_implies, not_false_eq_true, not_true_eq_false, eS, q1, q2]
      refine hQ _ (fun a n1 n2 n3 n4 => ?_) (fun k hk4 => rfl) ?_ (fun k hk6 => ?_) (fun k hk5 hb => ?_)
      · rw [up_n n2]
      · rw [hcn]; exact h4
      · exact hrow k hk6
      · exact hkeep k hk5 hb (Or.inr ⟨by omega, hn0⟩)
theorem c_forget_15 {e : am_V} {I : Nat → Nat → Int32} {L : Nat → Nat → Int64} {Q : (Nat → Nat → Int32) → Prop} {x y a1 a2 : Nat} (hx : x < 8) (hy : y < 8) (h1 : I 15 1 = nI a1) (h2 : I 15 2 = nI a2) (hQ : ∀ J, (∀ a, a ≠ 21 → a ≠ 22 → J a = I a) → (∀ k, k < 512 → (k / 8 = 8 * x + y ∨ k % 64 = 8 * x + y) → J 21 k = nI (if k / 64 = k % 8 then a2 else a1) ∧ J 22 k = nI (if k / 64 = k % 8 then a2 else a1)) → (∀ k, k < 512 → ¬ (k / 8 = 8 * x + y ∨ k % 64 = 8 * x + y) → J 21 k = I 21 k ∧ J 22 k = I 22 k) → Q J) : C_X7_forgetTurns_15 e (nI x) (nI y) I L Q := by
  refine b_X7_forgetTurns_15 ?_
  simp (disch := omega) only [pk_mul, nI_add, ksub, kdv, kd8, kd64, kd2, kd3, km8, km64, kt8, ke8, ke64, kcl, kin, kle, klt, keq, up_s, up_n, up_u, true_and, and_true, false_implies, true_implies, not_false_eq_true, not_true_eq_false]
  refine lp_up (n := 8) (S := Nat → Nat → Int32) (T := fun z J => T_X7_forgetTurns_15_p9 e (nI x) (nI y) (nI (8 * x + y)) (nI z) J L Q) (fun z J => (∀ a, a ≠ 21 → a ≠ 22 → J a = I a) ∧ (∀ k, k < 512 → (k / 8 = 8 * x + y ∧ k % 8 < z ∨ k % 64 = 8 * x + y ∧ k / 64 < z) → J 21 k = nI (if k / 64 = k % 8 then a2 else a1) ∧ J 22 k = nI (if k / 64 = k % 8 then a2 else a1)) ∧ (∀ k, k < 512 → ¬ (k / 8 = 8 * x + y ∨ k % 64 = 8 * x + y) → J 21 k = I 21 k ∧ J 22 k = I 22 k)) ?_ ?_ 0 I (Nat.zero_le _) ⟨fun _ _ _ => rfl, fun k hk h => by omega, fun _ _ _ => ⟨rfl, rfl⟩⟩
  · rintro z J hz ⟨i1, i2, i3⟩ hnext
    have e1 : J 15 1 = nI a1 := by rw [i1 15 (by decide) (by decide)]; exact h1
    have e2 : J 15 2 = nI a2 := by rw [i1 15 (by decide) (by decide)]; exact h2
    have q1 : (8 ≤ z) = False := eq_false (by omega)
    have hfin : ∀ v1 v2 J', J' = (va_up (va_up (va_up (va_up J 21 (va_up (J 21) (64 * x + 8 * y + z) (nI v1))) 22 (va_up (J 22) (64 * x + 8 * y + z) (nI v1))) 21 (va_up (va_up (J 21) (64 * x + 8 * y + z) (nI v1)) (64 * z + (8 * x + y)) (nI v2))) 22 (va_up (va_up (J 22) (64 * x + 8 * y + z) (nI v1)) (64 * z + (8 * x + y)) (nI v2))) → v1 = (if z = x then a2 else a1) → v2 = (if z = y then a2 else a1) → T_X7_forgetTurns_15_p9 e (nI x) (nI y) (nI (8 * x + y)) (nI (z + 1)) J' L Q := by
      intro v1 v2 J' hJ hv1 hv2
      have r6 : J' 21 = va_up (va_up (J 21) (64 * x + 8 * y + z) (nI v1)) (64 * z + (8 * x + y)) (nI v2) := by rw [hJ]; rfl
      have r7 : J' 22 = va_up (va_up (J 22) (64 * x + 8 * y + z) (nI v1)) (64 * z + (8 * x + y)) (nI v2) := by rw [hJ]; rfl
      refine hnext J' ⟨fun a n1 n2 => by rw [hJ, up_n n2, up_n n1, up_n n2, up_n n1]; exact i1 a n1 n2, fun k hk h => ?_, fun k hk h => ?_⟩
      · rw [r6, r7]
        by_cases hb : k = 64 * z + (8 * x + y)
        · rw [hb, up_s, up_s, hv2, show (64 * z + (8 * x + y)) / 64 = z from by omega, show (64 * z + (8 * x + y)) % 8 = y from by omega]
          exact ⟨rfl, rfl⟩
        · rw [up_n hb, up_n hb]
          by_cases ha : k = 64 * x + 8 * y + z
          · rw [ha, up_s, up_s, hv1, show (64 * x + 8 * y + z) / 64 = x from by omega, show (64 * x + 8 * y + z) % 8 = z from by omega]
            by_cases hxz : x = z
            · rw [if_pos hxz, if_pos hxz.symm]; exact ⟨rfl, rfl⟩
            · rw [if_neg hxz, if_neg (fun h => hxz h.symm)]; exact ⟨rfl, rfl⟩
          · rw [up_n ha, up_n ha]; exact i2 k hk (by omega)
      · rw [r6, r7, up_n (by omega), up_n (by omega), up_n (by omega), up_n (by omega)]
        exact i3 k hk h
    by_cases hzx : z = x
    · have q2 := eq_true hzx
      by_cases hzy : z = y
      · have q3 := eq_true hzy
        refine b_X7_forgetTurns_15_p9 ?_
        simp (disch := omega) only [pk_mul, nI_add, ksub, kdv, kd8, kd64, kd2, kd3, km8, km64, kt8, ke8, ke64, kcl, kin, kle, klt, keq, up_s, up_n, up_u, true_and, and_true, false_implies, true_implies, not_false_eq_true, not_true_eq_false, q1, q2, q3, e1, e2]
        exact hfin a2 a2 _ rfl (by rw [if_pos hzx]) (by rw [if_pos hzy])
      · have q3 := eq_false hzy
        refine b_X7_forgetTurns_15_p9 ?_
        simp (disch := omega) only [pk_mul, nI_add, ksub, kdv, kd8, kd64, kd2, kd3, km8, km64, kt8, ke8, ke64, kcl, kin, kle, klt, keq, up_s, up_n, up_u, true_and, and_true, false_implies, true_implies, not_false_eq_true, not_true_eq_false, q1, q2, q3, e1, e2]
        exact hfin a2 a1 _ rfl (by rw [if_pos hzx]) (by rw [if_neg hzy])
    · have q2 := eq_false hzx
      by_cases hzy : z = y
      · have q3 := eq_true hzy
        refine b_X7_forgetTurns_15_p9 ?_
        simp (disch := omega) only [pk_mul, nI_add, ksub, kdv, kd8, kd64, kd2, kd3, km8, km64, kt8, ke8, ke64, kcl, kin, kle, klt, keq, up_s, up_n, up_u, true_and, and_true, false_implies, true_implies, not_false_eq_true, not_true_eq_false, q1, q2, q3, e1, e2]
        exact hfin a1 a2 _ rfl (by rw [if_neg hzx]) (by rw [if_pos hzy])
      · have q3 := eq_false hzy
        refine b_X7_forgetTurns_15_p9 ?_
        simp (disch := omega) only [pk_mul, nI_add, ksub, kdv, kd8, kd64, kd2, kd3, km8, km64, kt8, ke8, ke64, kcl, kin, kle, klt, keq, up_s, up_n, up_u, true_and, and_true, false_implies, true_implies, not_false_eq_true, not_true_eq_false, q1, q2, q3, e1, e2]
        exact hfin a1 a1 _ rfl (by rw [if_neg hzx]) (by rw [if_neg hzy])
  · rintro J ⟨i1, i2, i3⟩
    exact b_X7_forgetTurns_15_p9 ⟨fun _ => hQ J i1 (fun k hk h => i2 k hk (by omega)) i3, fun h => absurd (show nI 8 ≤ nI 8 from by decide) h⟩
/-- a street laid in the class's town 15 -/
theorem c_layStreet_15 {e : am_V} {I : Nat → Nat → Int32} {L : Nat → Nat → Int64} {Q : (Nat → Nat → Int32) → Prop} {t : tw} {x y n : Nat} (hk : tok t) (hx : x < 8) (hy : y < 8) (hxy : x ≠ y) (hn : n ≤ 9) (hz : t 1 (8 * x + y) = 0 → 0 < n) (h1 : I 15 1 = nI (t 0 1)) (h2 : I 15 2 = nI (t 0 2)) (h4 : I 15 4 = nI (cn (arp t) 64 / 2)) (hS : ∀ k, k < 64 → I 16 k = nI (t 1 k)) (hU : ∀ k, k < 512 → tB t k = true → I 21 k = nI (t 2 k) ∧ I 22 k = nI (t 3 k)) (hQ : ∀ J, (∀ a, a ≠ 15 → a ≠ 16 → a ≠ 21 → a ≠ 22 → J a = I a) → (∀ k, k ≠ 4 → J 15 k = I 15 k) → J 15 4 = nI (cn (arp (layT t x y n)) 64 / 2) → (∀ k, k < 64 → J 16 k = nI (layT t x y n 1 k)) → (∀ k, k < 512 → tB (layT t x y n) k = true → J 21 k = nI (layT t x y n 2 k) ∧ J 22 k = nI (layT t x y n 3 k)) → Q J) : C_X7_layStreet_15 e (nI x) (nI y) (nI n) I L Q := by
  obtain ⟨o0, oT, oZ, oY, oD, o9, oN, o28, oB, oX, oE, oF, oA, oH, oU, oV⟩ := hk
  have hsym := oY x hx y hy
  have eS := hS (8 * x + y) (by omega)
  have b1 := o9 (8 * x + y) (by omega)
  have hrow : ∀ k, k < 64 → va_up (va_up (I 16) (8 * x + y) (nI n)) (8 * y + x) (nI n) k = nI (laS (t 1) x y n k) := by
    intro k hk
    unfold laS
    by_cases hb : k = 8 * y + x
    · rw [hb, up_s, up_s]
    · rw [up_n hb, up_n hb]
      by_cases ha : k = 8 * x + y
      · rw [ha, up_s, up_s]
      · rw [up_n ha, up_n ha]; exact hS k hk
  have hcb : cn (arp t) 64 ≤ 64 := cn_n _ _
  have hkeep : ∀ k, k < 512 → tB (layT t x y n) k = true → (¬ tch x y k ∨ (t 1 (8 * x + y) ≠ 0 ∧ n ≠ 0)) → I 21 k = nI (layT t x y n 2 k) ∧ I 22 k = nI (layT t x y n 3 k) := by
    intro k hk5 hb hc
    rw [layT_2, layT_3]
    by_cases hc2 : tch x y k
    · have hc3 : t 1 (8 * x + y) ≠ 0 ∧ n ≠ 0 := hc.resolve_left (fun h => h hc2)
      rw [laU_k hc3.1 hc3.2, laU_k hc3.1 hc3.2]
      have heq : ∀ a, 0 < laS (t 1) x y n a → 0 < t 1 a := by
        intro a h
        by_cases hb3 : a = 8 * y + x
        · rw [hb3]; omega
        · by_cases ha2 : a = 8 * x + y
          · rw [ha2]; omega
          · rw [laS_o ha2 hb3] at h; exact h
      have hb2 := tBs_i.mp (show tBs (laS (t 1) x y n) k = true from hb)
      exact hU k hk5 (tB_i.mpr ⟨heq _ hb2.1, heq _ hb2.2⟩)
    · rw [laU_o hc2, laU_o hc2]
      have hb2 : tBs (laS (t 1) x y n) k = true := hb
      rw [tBs_o hc2] at hb2
      exact hU k hk5 hb2
  refine b_X7_layStreet_15 ?_
  by_cases h0 : t 1 (8 * x + y) ≤ 0
  · have hnp := hz (by omega)
    have q1 := eq_true h0
    have q2 : (n ≤ 0) = False := eq_false (by omega)
    have hcn := ar_new (t := t) (n := n) hx hy hxy (by omega) (by omega) hnp
    simp (disch := omega) only [pk_mul, nI_add, ksub, kdv, kd8, kd64, kd2, kd3, km8, km64, kt8, ke8, ke64, kcl, kin, kle, klt, keq, up_s, up_n, up_u, true_and, and_true, false_implies, true_implies, not_false_eq_true, not_true_eq_false, eS, q1, q2, h4]
    refine c_forget_15 hx hy h1 h2 (fun J1 a1 a2 a3 => ?_)
    refine c_forget_15 (a1 := t 0 1) (a2 := t 0 2) hy hx (by rw [a1 15 (by decide) (by decide)]; exact h1) (by rw [a1 15 (by decide) (by decide)]; exact h2) (fun J2 b1 b2 b3 => ?_)
    refine hQ J2 (fun a n1 n2 n3 n4 => ?_) (fun k hk4 => ?_) ?_ (fun k hk6 => ?_) (fun k hk5 hb => ?_)
    · rw [b1 a n3 n4, a1 a n3 n4, up_n n1, up_n n2]
    · rw [b1 15 (by decide) (by decide), a1 15 (by decide) (by decide)]
      show va_up (I 15) 4 _ k = _
      rw [up_n hk4]
    · rw [b1 15 (by decide) (by decide), a1 15 (by decide) (by decide)]
      show va_up (I 15) 4 _ 4 = _
      rw [up_s, hcn, show (cn (arp t) 64 + 2) / 2 = cn (arp t) 64 / 2 + 1 from by omega]
      exact up_s
    · rw [b1 16 (by decide) (by decide), a1 16 (by decide) (by decide)]
      exact hrow k hk6
    · by_cases hc : tch x y k
      · have hv : laV t x y n k = if k / 64 = k % 8 then t 0 2 else t 0 1 := by
          unfold laV
          rw [if_pos (show tBs (laS (t 1) x y n) k = true from hb)]
        rw [layT_2, layT_3, laU_t (Or.inl (by omega)) hc, laU_t (Or.inl (by omega)) hc, hv]
        by_cases hc2 : k / 8 = 8 * y + x ∨ k % 64 = 8 * y + x
        · exact b2 k hk5 hc2
        · rw [(b3 k hk5 hc2).1, (b3 k hk5 hc2).2]
          refine a2 k hk5 ?_
          unfold tch at hc
          omega
      · have hc' := hc
        unfold tch at hc'
        rw [(b3 k hk5 (by omega)).1, (b3 k hk5 (by omega)).2, (a3 k hk5 (by omega)).1, (a3 k hk5 (by omega)).2]
        exact hkeep k hk5 hb (Or.inl hc)
  · have q1 := eq_false h0
    by_cases hn0 : n = 0
    · have q2 := eq_true hn0
      have hcn := ar_gone (t := t) hx hy hxy (by omega) (by omega)
      simp (disch := omega) only [pk_mul, nI_add, ksub, kdv, kd8, kd64, kd2, kd3, km8, km64, kt8, ke8, ke64, kcl, kin, kle, klt, keq, up_s, up_n, up_u, true_and, and_true, false_implies, true_implies, not_false_eq_true, not_true_eq_false, eS, q1, q2, h4]
      refine hQ _ (fun a n1 n2 n3 n4 => ?_) (fun k hk4 => ?_) ?_ (fun k hk6 => ?_) (fun k hk5 hb => ?_)
      · rw [up_n n1, up_n n2]
      · show va_up (I 15) 4 _ k = _
        rw [up_n hk4]
      · show va_up (I 15) 4 _ 4 = _
        rw [hn0, ← show cn (arp t) 64 / 2 - 1 = cn (arp (layT t x y 0)) 64 / 2 from by omega]
        exact up_s
      · exact hrow k hk6
      · refine hkeep k hk5 hb (Or.inl (fun hc => ?_))
        rw [hn0] at hb
        have h5 := tch_0 (s := t 1) hx hy hc
        rw [show tB (layT t x y 0) k = tBs (laS (t 1) x y 0) k from rfl, h5] at hb
        cases hb
    · have q2 := eq_false hn0
      have hcn := ar_old (t := t) (n := n) hx hy (by omega) (by omega) (by omega)
      simp (disch := omega) only [pk_mul, nI_add, ksub, kdv, kd8, kd64, kd2, kd3, km8, km64, kt8, ke8, ke64, kcl, kin, kle, klt, keq, up_s, up_n, up_u, true_and, and_true, false_implies, true_implies, not_false_eq_true, not_true_eq_false, eS, q1, q2]
      refine hQ _ (fun a n1 n2 n3 n4 => ?_) (fun k hk4 => rfl) ?_ (fun k hk6 => ?_) (fun k hk5 hb => ?_)
      · rw [up_n n2]
      · rw [hcn]; exact h4
      · exact hrow k hk6
      · exact hkeep k hk5 hb (Or.inr ⟨by omega, hn0⟩)
/-- the reference's town number w: one turn laid, a street laid -/
theorem c_laysTurn {e : am_V} {I : Nat → Nat → Int32} {L : Nat → Nat → Int64} {Q : (Nat → Nat → Int32) → Prop} {w x y z a1 a2 : Nat} {s : Nat → Nat} (hw : w ≤ 4) (hx : x < 8) (hy : y < 8) (hz : z < 8) (hS : ∀ k, k < 64 → I 81 (64 * w + k) = nI (s k)) (h9 : ∀ k, k < 64 → s k ≤ 9) (h1 : I 80 (5 * w + 1) = nI a1) (h2 : I 80 (5 * w + 2) = nI a2) (hQ : Q (va_up (va_up I 82 (va_up (I 82) (512 * w + (64 * x + 8 * y + z)) (nI (if tBs s (64 * x + 8 * y + z) = true then (if x = z then a2 else a1) else 0)))) 83 (va_up (I 83) (512 * w + (64 * x + 8 * y + z)) (nI (if tBs s (64 * x + 8 * y + z) = true then (if x = z then a2 else a1) else 0))))) : C_X11_laysTurn_73 e (nI w) (nI x) (nI y) (nI z) I L Q := by
  have e1 : I 81 (64 * w + 8 * x + y) = nI (s (8 * x + y)) := by rw [Nat.add_assoc]; exact hS _ (by omega)
  have e2 : I 81 (64 * w + 8 * y + z) = nI (s (8 * y + z)) := by rw [Nat.add_assoc]; exact hS _ (by omega)
  have b1 := h9 (8 * x + y) (by omega)
  have b2 := h9 (8 * y + z) (by omega)
  have hT : tBs s (64 * x + 8 * y + z) = (decide (0 < s (8 * x + y)) && decide (0 < s (8 * y + z))) := by
    unfold tBs
    rw [show (64 * x + 8 * y + z) / 8 = 8 * x + y from by omega, show (64 * x + 8 * y + z) % 64 = 8 * y + z from by omega]
  refine b_X11_laysTurn_73 ?_
  by_cases c1 : s (8 * x + y) ≤ 0
  · have q1 := eq_true c1
    rw [hT, decide_eq_false (by omega), Bool.false_and, if_neg (by decide)] at hQ
    simp (disch := omega) only [pk_mul, nI_add, ksub, kdv, kd8, kd64, kd2, kd3, km8, km64, kt8, ke8, ke64, kcl, kin, kle, klt, keq, up_s, up_n, up_u, true_and, and_true, false_implies, true_implies, not_false_eq_true, not_true_eq_false, e1, q1]
    exact hQ
  · have q1 := eq_false c1
    by_cases c2 : s (8 * y + z) ≤ 0
    · have q2 := eq_true c2
      rw [hT, decide_eq_false (p := 0 < s (8 * y + z)) (by omega), Bool.and_false, if_neg (by decide)] at hQ
      simp (disch := omega) only [pk_mul, nI_add, ksub, kdv, kd8, kd64, kd2, kd3, km8, km64, kt8, ke8, ke64, kcl, kin, kle, klt, keq, up_s, up_n, up_u, true_and, and_true, false_implies, true_implies, not_false_eq_true, not_true_eq_false, e1, q1, e2, q2]
      exact hQ
    · have q2 := eq_false c2
      rw [hT, decide_eq_true (p := 0 < s (8 * x + y)) (by omega), decide_eq_true (p := 0 < s (8 * y + z)) (by omega), Bool.and_true, if_pos rfl] at hQ
      by_cases c3 : x = z
      · have q3 := eq_true c3
        rw [if_pos c3] at hQ
        simp (disch := omega) only [pk_mul, nI_add, ksub, kdv, kd8, kd64, kd2, kd3, km8, km64, kt8, ke8, ke64, kcl, kin, kle, klt, keq, up_s, up_n, up_u, true_and, and_true, false_implies, true_implies, not_false_eq_true, not_true_eq_false, e1, q1, e2, q2, q3, h1, h2]
        exact hQ
      · have q3 := eq_false c3
        rw [if_neg c3] at hQ
        simp (disch := omega) only [pk_mul, nI_add, ksub, kdv, kd8, kd64, kd2, kd3, km8, km64, kt8, ke8, ke64, kcl, kin, kle, klt, keq, up_s, up_n, up_u, true_and, and_true, false_implies, true_implies, not_false_eq_true, not_true_eq_false, e1, q1, e2, q2, q3, h1, h2]
        exact hQ
def lwR (w : Nat) (P : Nat → Prop) (v u2 u3 : Nat → Nat) (I J : Nat → Nat → Int32) : Prop := (∀ a, a ≠ 82 → a ≠ 83 → J a = I a) ∧ (∀ i, (i < 512 * w ∨ 512 * w + 512 ≤ i) → J 82 i = I 82 i ∧ J 83 i = I 83 i) ∧ (∀ k, k < 512 → (P k → J 82 (512 * w + k) = nI (v k) ∧ J 83 (512 * w + k) = nI (v k)) ∧ (¬ P k → J 82 (512 * w + k) = nI (u2 k) ∧ J 83 (512 * w + k) = nI (u3 k)))
theorem lwR_u {w k0 : Nat} {P : Nat → Prop} {v u2 u3 : Nat → Nat} {I J : Nat → Nat → Int32} {z : Nat} (h : lwR w P v u2 u3 I J) (hk : k0 < 512) (hz : z = v k0) : lwR w (fun k => P k ∨ k = k0) v u2 u3 I (va_up (va_up J 82 (va_up (J 82) (512 * w + k0) (nI z))) 83 (va_up (J 83) (512 * w + k0) (nI z))) := by
  obtain ⟨h1, h2, h3⟩ := h
  refine ⟨fun a n1 n2 => by rw [up_n n2, up_n n1]; exact h1 a n1 n2, fun i hi => ?_, fun k hk5 => ?_⟩
  · show va_up (J 82) _ _ i = _ ∧ va_up (J 83) _ _ i = _
    rw [up_n (by omega), up_n (by omega)]
    exact h2 i hi
  · show (_ → va_up (J 82) _ _ (512 * w + k) = _ ∧ va_up (J 83) _ _ (512 * w + k) = _) ∧ (_ → va_up (J 82) _ _ (512 * w + k) = _ ∧ va_up (J 83) _ _ (512 * w + k) = _)
    by_cases he : k = k0
    · rw [he, up_s, up_s, hz]
      exact ⟨fun _ => ⟨rfl, rfl⟩, fun h => absurd (Or.inr rfl) h⟩
    · rw [up_n (by omega), up_n (by omega)]
      exact ⟨fun h => (h3 k hk5).1 (h.resolve_right he), fun h => (h3 k hk5).2 (fun h4 => h (Or.inl h4))⟩
theorem lwR_c {w : Nat} {P P' : Nat → Prop} {v u2 u3 : Nat → Nat} {I J : Nat → Nat → Int32} (h : lwR w P v u2 u3 I J) (hp : ∀ k, k < 512 → (P' k ↔ P k)) : lwR w P' v u2 u3 I J := ⟨h.1, h.2.1, fun k hk => ⟨fun h1 => (h.2.2 k hk).1 ((hp k hk).mp h1), fun h1 => (h.2.2 k hk).2 (fun h2 => h1 ((hp k hk).mpr h2))⟩⟩
theorem lay_set {x y z k : Nat} (hx : x < 8) (hy : y < 8) (hz : z < 8) : (k / 8 = 8 * x + y ∧ k % 8 < z + 1 ∨ k % 64 = 8 * y + x ∧ k / 64 < z + 1 ∨ k / 8 = 8 * y + x ∧ k % 8 < z + 1 ∨ k % 64 = 8 * x + y ∧ k / 64 < z + 1) ↔ (((((k / 8 = 8 * x + y ∧ k % 8 < z ∨ k % 64 = 8 * y + x ∧ k / 64 < z ∨ k / 8 = 8 * y + x ∧ k % 8 < z ∨ k % 64 = 8 * x + y ∧ k / 64 < z) ∨ k = 64 * x + 8 * y + z) ∨ k = 64 * z + 8 * y + x) ∨ k = 64 * y + 8 * x + z) ∨ k = 64 * z + 8 * x + y) := by
  constructor
  · rintro (⟨h1, h2⟩ | ⟨h1, h2⟩ | ⟨h1, h2⟩ | ⟨h1, h2⟩)
    · rcases Nat.lt_or_ge (k % 8) z with h3 | h3
      · exact Or.inl (Or.inl (Or.inl (Or.inl (Or.inl ⟨h1, h3⟩))))
      · exact Or.inl (Or.inl (Or.inl (Or.inr (by omega))))
    · rcases Nat.lt_or_ge (k / 64) z with h3 | h3
      · exact Or.inl (Or.inl (Or.inl (Or.inl (Or.inr (Or.inl ⟨h1, h3⟩)))))
      · exact Or.inl (Or.inl (Or.inr (by omega)))
    · rcases Nat.lt_or_ge (k % 8) z with h3 | h3
      · exact Or.inl (Or.inl (Or.inl (Or.inl (Or.inr (Or.inr (Or.inl ⟨h1, h3⟩))))))
      · exact Or.inl (Or.inr (by omega))
    · rcases Nat.lt_or_ge (k / 64) z with h3 | h3
      · exact Or.inl (Or.inl (Or.inl (Or.inl (Or.inr (Or.inr (Or.inr ⟨h1, h3⟩))))))
      · exact Or.inr (by omega)
  · rintro (((((⟨h1, h2⟩ | ⟨h1, h2⟩ | ⟨h1, h2⟩ | ⟨h1, h2⟩) | h) | h) | h) | h)
    · exact Or.inl ⟨h1, by omega⟩
    · exact Or.inr (Or.inl ⟨h1, by omega⟩)
    · exact Or.inr (Or.inr (Or.inl ⟨h1, by omega⟩))
    · exact Or.inr (Or.inr (Or.inr ⟨h1, by omega⟩))
    · exact Or.inl ⟨by omega, by omega⟩
    · exact Or.inr (Or.inl ⟨by omega, by omega⟩)
    · exact Or.inr (Or.inr (Or.inl ⟨by omega, by omega⟩))
    · exact Or.inr (Or.inr (Or.inr ⟨by omega, by omega⟩))
theorem c_layW {e : am_V} {I : Nat → Nat → Int32} {L : Nat → Nat → Int64} {Q : (Nat → Nat → Int32) → Prop} {t : tw} {w x y n : Nat} (hw : w ≤ 4) (hk : tok t) (hx : x < 8) (hy : y < 8) (hxy : x ≠ y) (hn : n ≤ 9) (h1 : I 80 (5 * w + 1) = nI (t 0 1)) (h2 : I 80 (5 * w + 2) = nI (t 0 2)) (hS : ∀ k, k < 64 → I 81 (64 * w + k) = nI (t 1 k)) (hU : ∀ k, k < 512 → I 82 (512 * w + k) = nI (t 2 k)) (hV : ∀ k, k < 512 → I 83 (512 * w + k) = nI (t 3 k)) (hQ : ∀ J, (∀ a, a ≠ 81 → a ≠ 82 → a ≠ 83 → J a = I a) → (∀ i, (i < 64 * w ∨ 64 * w + 64 ≤ i) → J 81 i = I 81 i) → (∀ i, (i < 512 * w ∨ 512 * w + 512 ≤ i) → J 82 i = I 82 i ∧ J 83 i = I 83 i) → (∀ k, k < 64 → J 81 (64 * w + k) = nI (layT t x y n 1 k)) → (∀ k, k < 512 → J 82 (512 * w + k) = nI (layT t x y n 2 k)) → (∀ k, k < 512 → J 83 (512 * w + k) = nI (layT t x y n 3 k)) → Q J) : C_X11_lays_73 e (nI w) (nI x) (nI y) (nI n) I L Q := by
  obtain ⟨o0, oT, oZ, oY, oD, o9, oN, o28, oB, oX, oE, oF, oA, oH, oU, oV⟩ := hk
  have eS : I 81 (64 * w + 8 * x + y) = nI (t 1 (8 * x + y)) := by rw [Nat.add_assoc]; exact hS _ (by omega)
  have b1 := o9 (8 * x + y) (by omega)
  have hrow : ∀ k, k < 64 → va_up (va_up (I 81) (64 * w + 8 * x + y) (nI n)) (64 * w + 8 * y + x) (nI n) (64 * w + k) = nI (laS (t 1) x y n k) := by
    intro k hk
    unfold laS
    by_cases hb : k = 8 * y + x
    · rw [hb, up_s, ← Nat.add_assoc, up_s]
    · rw [up_n hb, up_n (by omega)]
      by_cases ha : k = 8 * x + y
      · rw [ha, up_s, ← Nat.add_assoc, up_s]
      · rw [up_n ha, up_n (by omega)]; exact hS k hk
  have hfr : ∀ i, (i < 64 * w ∨ 64 * w + 64 ≤ i) → va_up (va_up (I 81) (64 * w + 8 * x + y) (nI n)) (64 * w + 8 * y + x) (nI n) i = I 81 i := by
    intro i hi
    rw [up_n (by omega), up_n (by omega)]
  have hlp : (t 1 (8 * x + y) = 0 ∨ n = 0) → T_X11_lays_73_p75 e (nI w) (nI x) (nI y) (nI 0) (va_up I 81 (va_up (va_up (I 81) (64 * w + 8 * x + y) (nI n)) (64 * w + 8 * y + x) (nI n))) L Q := by
    intro hc
    generalize hI1 : va_up I 81 (va_up (va_up (I 81) (64 * w + 8 * x + y) (nI n)) (64 * w + 8 * y + x) (nI n)) = I1
    have r81 : I1 81 = va_up (va_up (I 81) (64 * w + 8 * x + y) (nI n)) (64 * w + 8 * y + x) (nI n) := by rw [← hI1, up_s]
    have ro : ∀ a, a ≠ 81 → I1 a = I a := fun a ha => by rw [← hI1, up_n ha]
    have hS1 : ∀ k, k < 64 → I1 81 (64 * w + k) = nI (laS (t 1) x y n k) := fun k hk => by rw [r81]; exact hrow k hk
    refine lp_up (n := 8) (S := Nat → Nat → Int32) (T := fun z J => T_X11_lays_73_p75 e (nI w) (nI x) (nI y) (nI z) J L Q) (fun z J => lwR w (fun k => k / 8 = 8 * x + y ∧ k % 8 < z ∨ k % 64 = 8 * y + x ∧ k / 64 < z ∨ k / 8 = 8 * y + x ∧ k % 8 < z ∨ k % 64 = 8 * x + y ∧ k / 64 < z) (laV t x y n) (t 2) (t 3) I1 J) ?_ ?_ 0 I1 (Nat.zero_le _) ⟨fun _ _ _ => rfl, fun _ _ => ⟨rfl, rfl⟩, fun k hk => ⟨fun h => by omega, fun _ => ⟨by rw [ro 82 (by decide)]; exact hU k hk, by rw [ro 83 (by decide)]; exact hV k hk⟩⟩⟩
    · rintro z J hz hi hnext
      have q1 : (8 ≤ z) = False := eq_false (by omega)
      refine b_X11_lays_73_p75 ?_
      simp (disch := omega) only [pk_mul, nI_add, ksub, kdv, kd8, kd64, kd2, kd3, km8, km64, kt8, ke8, ke64, kcl, kin, kle, klt, keq, up_s, up_n, up_u, true_and, and_true, false_implies, true_implies, not_false_eq_true, not_true_eq_false, q1]
      have g : ∀ P J', lwR w P (laV t x y n) (t 2) (t 3) I1 J' → (∀ k, k < 64 → J' 81 (64 * w + k) = nI (laS (t 1) x y n k)) ∧ J' 80 (5 * w + 1) = nI (t 0 1) ∧ J' 80 (5 * w + 2) = nI (t 0 2) := fun P J' h => ⟨fun k hk => by rw [h.1 81 (by decide) (by decide)]; exact hS1 k hk, by rw [h.1 80 (by decide) (by decide), ro 80 (by decide)]; exact h1, by rw [h.1 80 (by decide) (by decide), ro 80 (by decide)]; exact h2⟩
      have hv : ∀ p q r, p < 8 → q < 8 → r < 8 → (if tBs (laS (t 1) x y n) (64 * p + 8 * q + r) = true then (if p = r then t 0 2 else t 0 1) else 0) = laV t x y n (64 * p + 8 * q + r) := by
        intro p q r hp hq hr
        unfold laV
        rw [show (64 * p + 8 * q + r) / 64 = p from by omega, show (64 * p + 8 * q + r) % 8 = r from by omega]
      have s9 := laS_9 (x := x) (y := y) o9 hn
      obtain ⟨g1, g2, g3⟩ := g _ _ hi
      refine c_laysTurn hw hx hy hz g1 s9 g2 g3 ?_
      have i1 := lwR_u hi (k0 := 64 * x + 8 * y + z) (by omega) (hv x y z hx hy hz)
      obtain ⟨g1, g2, g3⟩ := g _ _ i1
      refine c_laysTurn hw hz hy hx g1 s9 g2 g3 ?_
      have i2 := lwR_u i1 (k0 := 64 * z + 8 * y + x) (by omega) (hv z y x hz hy hx)
      obtain ⟨g1, g2, g3⟩ := g _ _ i2
      refine c_laysTurn hw hy hx hz g1 s9 g2 g3 ?_
      have i3 := lwR_u i2 (k0 := 64 * y + 8 * x + z) (by omega) (hv y x z hy hx hz)
      obtain ⟨g1, g2, g3⟩ := g _ _ i3
      refine c_laysTurn hw hz hx hy g1 s9 g2 g3 ?_
      have i4 := lwR_u i3 (k0 := 64 * z + 8 * x + y) (by omega) (hv z x y hz hx hy)
      refine hnext _ (lwR_c i4 (fun k hk5 => ?_))
      exact lay_set hx hy hz
    · rintro J ⟨i1, i2, i3⟩
      have q1 : (8 ≤ 8) = True := eq_true (Nat.le_refl _)
      refine b_X11_lays_73_p75 ?_
      simp (disch := omega) only [pk_mul, nI_add, ksub, kdv, kd8, kd64, kd2, kd3, km8, km64, kt8, ke8, ke64, kcl, kin, kle, klt, keq, up_s, up_n, up_u, true_and, and_true, false_implies, true_implies, not_false_eq_true, not_true_eq_false, q1]
      refine hQ J (fun a n1 n2 n3 => (i1 a n2 n3).trans (ro a n1)) (fun i hi => ?_) (fun i hi => ?_) (fun k hk6 => ?_) (fun k hk5 => ?_) (fun k hk5 => ?_)
      · rw [i1 81 (by decide) (by decide), r81]; exact hfr i hi
      · rw [← ro 82 (by decide), ← ro 83 (by decide)]; exact i2 i hi
      · rw [i1 81 (by decide) (by decide), r81]; exact hrow k hk6
      · rw [layT_2]
        by_cases hc2 : tch x y k
        · rw [laU_t hc hc2]
          exact ((i3 k hk5).1 (by unfold tch at hc2; omega)).1
        · rw [laU_o hc2]
          exact ((i3 k hk5).2 (by unfold tch at hc2; omega)).1
      · rw [layT_3]
        by_cases hc2 : tch x y k
        · rw [laU_t hc hc2]
          exact ((i3 k hk5).1 (by unfold tch at hc2; omega)).2
        · rw [laU_o hc2]
          exact ((i3 k hk5).2 (by unfold tch at hc2; omega)).2
  refine b_X11_lays_73 ?_
  by_cases h0 : t 1 (8 * x + y) = 0
  · have q1 := eq_true h0
    simp (disch := omega) only [pk_mul, nI_add, ksub, kdv, kd8, kd64, kd2, kd3, km8, km64, kt8, ke8, ke64, kcl, kin, kle, klt, keq, up_s, up_n, up_u, true_and, and_true, false_implies, true_implies, not_false_eq_true, not_true_eq_false, eS, q1]
    exact hlp (Or.inl h0)
  · have q1 := eq_false h0
    by_cases hn0 : n = 0
    · have q2 := eq_true hn0
      simp (disch := omega) only [pk_mul, nI_add, ksub, kdv, kd8, kd64, kd2, kd3, km8, km64, kt8, ke8, ke64, kcl, kin, kle, klt, keq, up_s, up_n, up_u, true_and, and_true, false_implies, true_implies, not_false_eq_true, not_true_eq_false, eS, q1, q2]
      exact hlp (Or.inr hn0)
    · have q2 := eq_false hn0
      simp (disch := omega) only [pk_mul, nI_add, ksub, kdv, kd8, kd64, kd2, kd3, km8, km64, kt8, ke8, ke64, kcl, kin, kle, klt, keq, up_s, up_n, up_u, true_and, and_true, false_implies, true_implies, not_false_eq_true, not_true_eq_false, eS, q1, q2]
      refine hQ _ (fun a n1 n2 n3 => up_n n1) (fun i hi => hfr i hi) (fun i hi => ⟨rfl, rfl⟩) (fun k hk6 => hrow k hk6) (fun k hk5 => ?_) (fun k hk5 => ?_)
      · rw [layT_2, laU_k h0 hn0]; exact hU k hk5
      · rw [layT_3, laU_k h0 hn0]; exact hV k hk5
/-- how many streets the reference's town number w has -/
theorem c_streetsW {e : am_V} {I : Nat → Nat → Int32} {L : Nat → Nat → Int64} {t : tw} {w : Nat} {Q : Int32 → (Nat → Nat → Int32) → Prop} (hw : w ≤ 4) (hS : ∀ k, k < 64 → I 81 (64 * w + k) = nI (t 1 k)) (h9 : ∀ k, k < 64 → t 1 k ≤ 9) (hQ : Q (nI (cn (arp t) 64 / 2)) I) : C_X11_streetsOf_73 e (nI w) I L Q := by
  refine b_X11_streetsOf_73 ?_
  refine lp_up (n := 64) (S := Nat) (T := fun a s => T_X11_streetsOf_73_p4 e (nI w) (nI s) (nI a) I L Q) (fun a s => s = cn (arp t) a) ?_ ?_ 0 0 (Nat.zero_le _) rfl
  · intro a s ha hs hnext
    have q1 : (64 ≤ a) = False := eq_false (by omega)
    have e1 := hS a ha
    have b1 := h9 a ha
    have b2 := cn_n (arp t) a
    refine b_X11_streetsOf_73_p4 ?_
    simp (disch := omega) only [pk_mul, nI_add, ksub, kdv, kd8, kd64, kd2, kd3, km8, km64, kt8, ke8, ke64, kcl, kin, kle, klt, keq, up_s, up_n, up_u, true_and, and_true, false_implies, true_implies, not_false_eq_true, not_true_eq_false, q1, e1, Nat.add_zero]
    refine ⟨fun h0 => hnext _ ?_, fun h0 => hnext _ ?_⟩
    · rw [cn_0 (decide_eq_false (by omega))]; exact hs
    · rw [cn_1 (decide_eq_true (by omega)), hs]
  · intro s hs
    have q1 : (64 ≤ 64) = True := eq_true (Nat.le_refl _)
    have b2 := cn_n (arp t) 64
    refine b_X11_streetsOf_73_p4 ?_
    simp (disch := omega) only [pk_mul, nI_add, ksub, kdv, kd8, kd64, kd2, kd3, km8, km64, kt8, ke8, ke64, kcl, kin, kle, klt, keq, up_s, up_n, up_u, true_and, and_true, false_implies, true_implies, not_false_eq_true, not_true_eq_false, q1]
    rw [hs]
    exact hQ
