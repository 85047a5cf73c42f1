/-! the tape's words: the reference's reader of them -/
def ltr (v : Int32) : Nat := v.toNatClampNeg - 96
def wN (b : Nat → Int32) (s : Nat) : Nat → Nat
  | 0 => 0
  | m + 1 => 27 * wN b s m + ltr (b (s + m))
def wI (b : Nat → Int32) (s m : Nat) : Int64 := if m ≤ 12 then lN (wN b s m) else (-1 : Int64)
def wcn (j : Nat) : Nat := [405230, 1041669188605, 427348, 158523, 283616147, 409469, 81665878, 47].getD j 0
theorem wN_s (b : Nat → Int32) (s m : Nat) : wN b s (m + 1) = 27 * wN b s m + ltr (b (s + m)) := rfl
theorem ltr_d {d : Nat} (h : d ≤ 26) : ltr (nI (96 + d)) = d := by
  unfold ltr
  rw [nI_clamp (by omega)]
  omega
theorem w_step {a d : Nat} (h : d ≤ 26) : (27 : Int64) * lN a + (nI (96 + d)).toInt64 - (96 : Int64) = lN (27 * a + d) := by
  rw [nI_l (by omega)]
  unfold lN
  rw [show (27 : Int64) = Int64.ofNat 27 from rfl, show (96 : Int64) = Int64.ofNat 96 from rfl, ← Int64.ofNat_mul, show 96 + d = d + 96 from by omega, Int64.ofNat_add, ← Int64.add_assoc, Int64.add_sub_cancel, ← Int64.ofNat_add]
theorem lN_inj {a c : Nat} (ha : a < 2 ^ 63) (hc : c < 2 ^ 63) : lN a = lN c ↔ a = c := by
  constructor
  · intro h
    have h1 : (lN a).toInt = (lN c).toInt := by rw [h]
    unfold lN at h1
    rw [Int64.toInt_ofNat_of_lt ha, Int64.toInt_ofNat_of_lt hc] at h1
    omega
  · intro h; rw [h]
/-- letters all the way -/
def lts (b : Nat → Int32) (s m : Nat) : Prop := ∀ i, i < m → ∃ d, 1 ≤ d ∧ d ≤ 26 ∧ b (s + i) = nI (96 + d)
theorem wN_b {b : Nat → Int32} {s m : Nat} (h : lts b s m) : wN b s m < 27 ^ m := by
  induction m with
  | zero => exact Nat.one_pos
  | succ m ih =>
    obtain ⟨d, d1, d2, d3⟩ := h m (by omega)
    have h1 := ih (fun i hi => h i (by omega))
    rw [wN_s, d3, ltr_d d2, Nat.pow_succ]
    omega
theorem wN_0 {b : Nat → Int32} {s m : Nat} (h : lts b s m) (h0 : wN b s m = 0) : m = 0 := by
  cases m with
  | zero => rfl
  | succ m =>
    obtain ⟨d, d1, d2, d3⟩ := h m (by omega)
    rw [wN_s, d3, ltr_d d2] at h0
    omega
theorem w_inv {b : Nat → Int32} {s m C : Nat} (h : lts b s m) (hw : wN b s m = C) (hC : 0 < C) : ∃ m', m = m' + 1 ∧ b (s + m') = nI (96 + C % 27) ∧ lts b s m' ∧ wN b s m' = C / 27 := by
  cases m with
  | zero =>
    have : (0 : Nat) = C := hw
    omega
  | succ m =>
    obtain ⟨d, d1, d2, d3⟩ := h m (by omega)
    rw [wN_s, d3, ltr_d d2] at hw
    exact ⟨m, rfl, by rw [d3, show C % 27 = d from by omega], fun i hi => h i (by omega), by omega⟩
theorem w_eq_0 {b : Nat → Int32} {s m : Nat} (h : lts b s m) : wN b s m = 405230 ↔ (m = 4 ∧ ∀ i, i < 4 → b (s + i) = xch 0 i) := by
  constructor
  · intro hw
    obtain ⟨m0, rfl, e3, g0, w0⟩ := w_inv h hw (by decide)
    obtain ⟨m1, rfl, e2, g1, w1⟩ := w_inv g0 w0 (by decide)
    obtain ⟨m2, rfl, e1, g2, w2⟩ := w_inv g1 w1 (by decide)
    obtain ⟨m3, rfl, e0, g3, w3⟩ := w_inv g2 w2 (by decide)
    have hz : m3 = 0 := wN_0 g3 w3
    subst hz
    refine ⟨rfl, fun i hi => ?_⟩
    match i, hi with
    | 0, _ => exact e0.trans (by decide)
    | 1, _ => exact e1.trans (by decide)
    | 2, _ => exact e2.trans (by decide)
    | 3, _ => exact e3.trans (by decide)
  · rintro ⟨rfl, hc⟩
    show 27 * (27 * (27 * (27 * (0) + ltr (b (s + 0))) + ltr (b (s + 1))) + ltr (b (s + 2))) + ltr (b (s + 3)) = 405230
    rw [hc 0 (by decide), hc 1 (by decide), hc 2 (by decide), hc 3 (by decide)]
    decide
theorem w_eq_1 {b : Nat → Int32} {s m : Nat} (h : lts b s m) : wN b s m = 1041669188605 ↔ (m = 9 ∧ ∀ i, i < 9 → b (s + i) = xch 1 i) := by
  constructor
  · intro hw
    obtain ⟨m0, rfl, e8, g0, w0⟩ := w_inv h hw (by decide)
    obtain ⟨m1, rfl, e7, g1, w1⟩ := w_inv g0 w0 (by decide)
    obtain ⟨m2, rfl, e6, g2, w2⟩ := w_inv g1 w1 (by decide)
    obtain ⟨m3, rfl, e5, g3, w3⟩ := w_inv g2 w2 (by decide)
    obtain ⟨m4, rfl, e4, g4, w4⟩ := w_inv g3 w3 (by decide)
    obtain ⟨m5, rfl, e3, g5, w5⟩ := w_inv g4 w4 (by decide)
    obtain ⟨m6, rfl, e2, g6, w6⟩ := w_inv g5 w5 (by decide)
    obtain ⟨m7, rfl, e1, g7, w7⟩ := w_inv g6 w6 (by decide)
    obtain ⟨m8, rfl, e0, g8, w8⟩ := w_inv g7 w7 (by decide)
    have hz : m8 = 0 := wN_0 g8 w8
    subst hz
    refine ⟨rfl, fun i hi => ?_⟩
    match i, hi with
    | 0, _ => exact e0.trans (by decide)
    | 1, _ => exact e1.trans (by decide)
    | 2, _ => exact e2.trans (by decide)
    | 3, _ => exact e3.trans (by decide)
    | 4, _ => exact e4.trans (by decide)
    | 5, _ => exact e5.trans (by decide)
    | 6, _ => exact e6.trans (by decide)
    | 7, _ => exact e7.trans (by decide)
    | 8, _ => exact e8.trans (by decide)
  · rintro ⟨rfl, hc⟩
    show 27 * (27 * (27 * (27 * (27 * (27 * (27 * (27 * (27 * (0) + ltr (b (s + 0))) + ltr (b (s + 1))) + ltr (b (s + 2))) + ltr (b (s + 3))) + ltr (b (s + 4))) + ltr (b (s + 5))) + ltr (b (s + 6))) + ltr (b (s + 7))) + ltr (b (s + 8)) = 1041669188605
    rw [hc 0 (by decide), hc 1 (by decide), hc 2 (by decide), hc 3 (by decide), hc 4 (by decide), hc 5 (by decide), hc 6 (by decide), hc 7 (by decide), hc 8 (by decide)]
    decide
theorem w_eq_2 {b : Nat → Int32} {s m : Nat} (h : lts b s m) : wN b s m = 427348 ↔ (m = 4 ∧ ∀ i, i < 4 → b (s + i) = xch 2 i) := by
  constructor
  · intro hw
    obtain ⟨m0, rfl, e3, g0, w0⟩ := w_inv h hw (by decide)
    obtain ⟨m1, rfl, e2, g1, w1⟩ := w_inv g0 w0 (by decide)
    obtain ⟨m2, rfl, e1, g2, w2⟩ := w_inv g1 w1 (by decide)
    obtain ⟨m3, rfl, e0, g3, w3⟩ := w_inv g2 w2 (by decide)
    have hz : m3 = 0 := wN_0 g3 w3
    subst hz
    refine ⟨rfl, fun i hi => ?_⟩
    match i, hi with
    | 0, _ => exact e0.trans (by decide)
    | 1, _ => exact e1.trans (by decide)
    | 2, _ => exact e2.trans (by decide)
    | 3, _ => exact e3.trans (by decide)
  · rintro ⟨rfl, hc⟩
    show 27 * (27 * (27 * (27 * (0) + ltr (b (s + 0))) + ltr (b (s + 1))) + ltr (b (s + 2))) + ltr (b (s + 3)) = 427348
    rw [hc 0 (by decide), hc 1 (by decide), hc 2 (by decide), hc 3 (by decide)]
    decide
theorem w_eq_3 {b : Nat → Int32} {s m : Nat} (h : lts b s m) : wN b s m = 158523 ↔ (m = 4 ∧ ∀ i, i < 4 → b (s + i) = xch 3 i) := by
  constructor
  · intro hw
    obtain ⟨m0, rfl, e3, g0, w0⟩ := w_inv h hw (by decide)
    obtain ⟨m1, rfl, e2, g1, w1⟩ := w_inv g0 w0 (by decide)
    obtain ⟨m2, rfl, e1, g2, w2⟩ := w_inv g1 w1 (by decide)
    obtain ⟨m3, rfl, e0, g3, w3⟩ := w_inv g2 w2 (by decide)
    have hz : m3 = 0 := wN_0 g3 w3
    subst hz
    refine ⟨rfl, fun i hi => ?_⟩
    match i, hi with
    | 0, _ => exact e0.trans (by decide)
    | 1, _ => exact e1.trans (by decide)
    | 2, _ => exact e2.trans (by decide)
    | 3, _ => exact e3.trans (by decide)
  · rintro ⟨rfl, hc⟩
    show 27 * (27 * (27 * (27 * (0) + ltr (b (s + 0))) + ltr (b (s + 1))) + ltr (b (s + 2))) + ltr (b (s + 3)) = 158523
    rw [hc 0 (by decide), hc 1 (by decide), hc 2 (by decide), hc 3 (by decide)]
    decide
theorem w_eq_4 {b : Nat → Int32} {s m : Nat} (h : lts b s m) : wN b s m = 283616147 ↔ (m = 6 ∧ ∀ i, i < 6 → b (s + i) = xch 4 i) := by
  constructor
  · intro hw
    obtain ⟨m0, rfl, e5, g0, w0⟩ := w_inv h hw (by decide)
    obtain ⟨m1, rfl, e4, g1, w1⟩ := w_inv g0 w0 (by decide)
    obtain ⟨m2, rfl, e3, g2, w2⟩ := w_inv g1 w1 (by decide)
    obtain ⟨m3, rfl, e2, g3, w3⟩ := w_inv g2 w2 (by decide)
    obtain ⟨m4, rfl, e1, g4, w4⟩ := w_inv g3 w3 (by decide)
    obtain ⟨m5, rfl, e0, g5, w5⟩ := w_inv g4 w4 (by decide)
    have hz : m5 = 0 := wN_0 g5 w5
    subst hz
    refine ⟨rfl, fun i hi => ?_⟩
    match i, hi with
    | 0, _ => exact e0.trans (by decide)
    | 1, _ => exact e1.trans (by decide)
    | 2, _ => exact e2.trans (by decide)
    | 3, _ => exact e3.trans (by decide)
    | 4, _ => exact e4.trans (by decide)
    | 5, _ => exact e5.trans (by decide)
  · rintro ⟨rfl, hc⟩
    show 27 * (27 * (27 * (27 * (27 * (27 * (0) + ltr (b (s + 0))) + ltr (b (s + 1))) + ltr (b (s + 2))) + ltr (b (s + 3))) + ltr (b (s + 4))) + ltr (b (s + 5)) = 283616147
    rw [hc 0 (by decide), hc 1 (by decide), hc 2 (by decide), hc 3 (by decide), hc 4 (by decide), hc 5 (by decide)]
    decide
theorem w_eq_5 {b : Nat → Int32} {s m : Nat} (h : lts b s m) : wN b s m = 409469 ↔ (m = 4 ∧ ∀ i, i < 4 → b (s + i) = xch 5 i) := by
  constructor
  · intro hw
    obtain ⟨m0, rfl, e3, g0, w0⟩ := w_inv h hw (by decide)
    obtain ⟨m1, rfl, e2, g1, w1⟩ := w_inv g0 w0 (by decide)
    obtain ⟨m2, rfl, e1, g2, w2⟩ := w_inv g1 w1 (by decide)
    obtain ⟨m3, rfl, e0, g3, w3⟩ := w_inv g2 w2 (by decide)
    have hz : m3 = 0 := wN_0 g3 w3
    subst hz
    refine ⟨rfl, fun i hi => ?_⟩
    match i, hi with
    | 0, _ => exact e0.trans (by decide)
    | 1, _ => exact e1.trans (by decide)
    | 2, _ => exact e2.trans (by decide)
    | 3, _ => exact e3.trans (by decide)
  · rintro ⟨rfl, hc⟩
    show 27 * (27 * (27 * (27 * (0) + ltr (b (s + 0))) + ltr (b (s + 1))) + ltr (b (s + 2))) + ltr (b (s + 3)) = 409469
    rw [hc 0 (by decide), hc 1 (by decide), hc 2 (by decide), hc 3 (by decide)]
    decide
theorem w_eq_6 {b : Nat → Int32} {s m : Nat} (h : lts b s m) : wN b s m = 81665878 ↔ (m = 6 ∧ ∀ i, i < 6 → b (s + i) = xch 6 i) := by
  constructor
  · intro hw
    obtain ⟨m0, rfl, e5, g0, w0⟩ := w_inv h hw (by decide)
    obtain ⟨m1, rfl, e4, g1, w1⟩ := w_inv g0 w0 (by decide)
    obtain ⟨m2, rfl, e3, g2, w2⟩ := w_inv g1 w1 (by decide)
    obtain ⟨m3, rfl, e2, g3, w3⟩ := w_inv g2 w2 (by decide)
    obtain ⟨m4, rfl, e1, g4, w4⟩ := w_inv g3 w3 (by decide)
    obtain ⟨m5, rfl, e0, g5, w5⟩ := w_inv g4 w4 (by decide)
    have hz : m5 = 0 := wN_0 g5 w5
    subst hz
    refine ⟨rfl, fun i hi => ?_⟩
    match i, hi with
    | 0, _ => exact e0.trans (by decide)
    | 1, _ => exact e1.trans (by decide)
    | 2, _ => exact e2.trans (by decide)
    | 3, _ => exact e3.trans (by decide)
    | 4, _ => exact e4.trans (by decide)
    | 5, _ => exact e5.trans (by decide)
  · rintro ⟨rfl, hc⟩
    show 27 * (27 * (27 * (27 * (27 * (27 * (0) + ltr (b (s + 0))) + ltr (b (s + 1))) + ltr (b (s + 2))) + ltr (b (s + 3))) + ltr (b (s + 4))) + ltr (b (s + 5)) = 81665878
    rw [hc 0 (by decide), hc 1 (by decide), hc 2 (by decide), hc 3 (by decide), hc 4 (by decide), hc 5 (by decide)]
    decide
theorem w_eq_7 {b : Nat → Int32} {s m : Nat} (h : lts b s m) : wN b s m = 47 ↔ (m = 2 ∧ ∀ i, i < 2 → b (s + i) = xch 7 i) := by
  constructor
  · intro hw
    obtain ⟨m0, rfl, e1, g0, w0⟩ := w_inv h hw (by decide)
    obtain ⟨m1, rfl, e0, g1, w1⟩ := w_inv g0 w0 (by decide)
    have hz : m1 = 0 := wN_0 g1 w1
    subst hz
    refine ⟨rfl, fun i hi => ?_⟩
    match i, hi with
    | 0, _ => exact e0.trans (by decide)
    | 1, _ => exact e1.trans (by decide)
  · rintro ⟨rfl, hc⟩
    show 27 * (27 * (0) + ltr (b (s + 0))) + ltr (b (s + 1)) = 47
    rw [hc 0 (by decide), hc 1 (by decide)]
    decide
theorem w_is {b : Nat → Int32} {n p j : Nat} (hp : p ≤ n) (hk : tK b n p = 1) (hj : j < 8) : wI b (tS b n p) (tE b n p - tS b n p) = lN (wcn j) ↔ isW b n p j := by
  have heb := tE_b (b := b) hp
  have hl : lts b (tS b n p) (tE b n p - tS b n p) := by
    intro i hi
    have h1 := tE_in (b := b) (n := n) (p := p) (j := tS b n p + i) (Or.inl hk) (by omega) (by omega)
    rw [hk] at h1
    unfold kAt at h1
    rw [if_pos (by omega)] at h1
    exact kc_1 h1
  generalize hm : tE b n p - tS b n p = m at hl
  have hc : wcn j < 2 ^ 63 := by
    have h : ∀ j, j < 8 → wcn j < 2 ^ 63 := by decide
    exact h j hj
  have hle : am_xl.getD j 0 ≤ 12 := by
    have h : ∀ j, j < 8 → am_xl.getD j 0 ≤ 12 := by decide
    exact h j hj
  unfold isW wI
  rw [hm]
  by_cases h12 : m ≤ 12
  · rw [if_pos h12, lN_inj (Nat.lt_of_lt_of_le (wN_b hl) (Nat.le_trans (Nat.pow_le_pow_right (by decide) h12) (by decide))) hc]
    obtain rfl | rfl | rfl | rfl | rfl | rfl | rfl | rfl : j = 0 ∨ j = 1 ∨ j = 2 ∨ j = 3 ∨ j = 4 ∨ j = 5 ∨ j = 6 ∨ j = 7 := by omega
    · exact (w_eq_0 hl).trans ⟨fun h => ⟨hk, h⟩, fun h => h.2⟩
    · exact (w_eq_1 hl).trans ⟨fun h => ⟨hk, h⟩, fun h => h.2⟩
    · exact (w_eq_2 hl).trans ⟨fun h => ⟨hk, h⟩, fun h => h.2⟩
    · exact (w_eq_3 hl).trans ⟨fun h => ⟨hk, h⟩, fun h => h.2⟩
    · exact (w_eq_4 hl).trans ⟨fun h => ⟨hk, h⟩, fun h => h.2⟩
    · exact (w_eq_5 hl).trans ⟨fun h => ⟨hk, h⟩, fun h => h.2⟩
    · exact (w_eq_6 hl).trans ⟨fun h => ⟨hk, h⟩, fun h => h.2⟩
    · exact (w_eq_7 hl).trans ⟨fun h => ⟨hk, h⟩, fun h => h.2⟩
  · rw [if_neg h12]
    constructor
    · intro h
      have h2 : ∀ j, j < 8 → ¬ ((-1 : Int64) = lN (wcn j)) := by decide
      exact absurd h (h2 j hj)
    · intro h
      omega
/-- the reference's number -/
def rvl (b : Nat → Int32) (s : Nat) : Nat → Nat
  | 0 => 0
  | m + 1 => if rvl b s m ≤ 100000 then 10 * rvl b s m + dgt (b (s + m)) else 1000000
theorem rvl_s (b : Nat → Int32) (s m : Nat) : rvl b s (m + 1) = if rvl b s m ≤ 100000 then 10 * rvl b s m + dgt (b (s + m)) else 1000000 := rfl
theorem cvl_s (b : Nat → Int32) (s m : Nat) : cvl b s (m + 1) = if 1000000 < cvl b s m * 10 + dgt (b (s + m)) then 1000000 else cvl b s m * 10 + dgt (b (s + m)) := rfl
theorem rvl_b {b : Nat → Int32} {s m : Nat} (h : ∀ i, i < m → dgt (b (s + i)) < 10) : rvl b s m ≤ 1000009 := by
  cases m with
  | zero => exact Nat.zero_le _
  | succ m =>
    have := h m (by omega)
    rw [rvl_s]
    split <;> omega
theorem rvl_c {b : Nat → Int32} {s m : Nat} (h : ∀ i, i < m → dgt (b (s + i)) < 10) : rvl b s m = cvl b s m ∨ (100000 ≤ rvl b s m ∧ 100000 ≤ cvl b s m) := by
  induction m with
  | zero => exact Or.inl rfl
  | succ m ih =>
    have hd := h m (by omega)
    have h1 := ih (fun i hi => h i (by omega))
    rw [rvl_s, cvl_s]
    split <;> split <;> omega
/-- the reference's reader at a place -/
def MSt (b : Nat → Int32) (n p : Nat) (J : Nat → Nat → Int32) (M : Nat → Nat → Int64) : Prop := J 73 6 = nI n ∧ J 73 7 = nI (tE b n p) ∧ J 73 8 = nI (tK b n p) ∧ J 73 9 = nI (tS b n p) ∧ (∃ v, v ≤ 1100000 ∧ J 73 10 = nI v ∧ (tK b n p = 2 → v = tV b n p ∨ (100000 ≤ v ∧ 100000 ≤ tV b n p))) ∧ (tK b n p = 1 → ∀ j, j < 8 → (M 73 11 = lN (wcn j) ↔ isW b n p j))
theorem c_isByte {e : am_V} {I : Nat → Nat → Int32} {L : Nat → Nat → Int64} {Q : Int32 → (Nat → Nat → Int32) → Prop} {n i : Nat} {lo hi : Int32} (h6 : I 73 6 = nI n) (hn : n ≤ 1600) (hi1 : i ≤ 1600) (h1 : i < n → ¬ I 78 i < lo → ¬ hi < I 78 i → Q (nI 1) I) (h0 : ¬ (i < n ∧ ¬ I 78 i < lo ∧ ¬ hi < I 78 i) → Q (nI 0) I) : C_X11_isByte_73 e (nI i) lo hi I L Q := by
  refine b_X11_isByte_73 ?_
  rw [h6, nI_clamp (by omega)]
  refine ⟨fun h => h0 (fun h2 => ?_), fun h => ⟨?_, fun a => h0 (fun h2 => h2.2.1 a), fun a => ⟨?_, fun c => h0 (fun h2 => h2.2.2 c), fun c => h1 ?_ a c⟩⟩⟩
  · rw [nI_leI (by omega) (by omega)] at h; omega
  · rw [nI_leI (by omega) (by omega)] at h; exact vp_in_nI (by omega) (by decide)
  · rw [nI_leI (by omega) (by omega)] at h; exact vp_in_nI (by omega) (by decide)
  · rw [nI_leI (by omega) (by omega)] at h; omega
theorem eq32 {v c : Int32} : (¬ v < c ∧ ¬ c < v) ↔ v = c := by
  rw [Int32.lt_iff_toInt_lt, Int32.lt_iff_toInt_lt]
  constructor
  · intro h
    exact Int32.toInt_inj.mp (by omega)
  · intro h
    rw [h]
    omega
theorem nz10 : ¬ nI 1 = nI 0 := by decide
/-- what next leaves as it was -/
def frN (J K : Nat → Nat → Int32) (L M : Nat → Nat → Int64) : Prop := (∀ a, a ≠ 73 → K a = J a) ∧ (∀ k, k ≠ 7 → k ≠ 8 → k ≠ 9 → k ≠ 10 → K 73 k = J 73 k) ∧ (∀ a, a ≠ 73 → M a = L a)
theorem c_next {e : am_V} {J : Nat → Nat → Int32} {L : Nat → Nat → Int64} {Q : (Nat → Nat → Int32) → (Nat → Nat → Int64) → Prop} {b : Nat → Int32} {n p : Nat} (hb : ∀ k, k < 1600 → J 78 k = b k) (hn : n ≤ 1600) (hp : p ≤ n) (h6 : J 73 6 = nI n) (h7 : J 73 7 = nI p) (hQ : ∀ K M, frN J K L M → MSt b n p K M → Q K M) : C_X11_next_73 e J L Q := by
  have hsb := tS_b (b := b) hp
  -- letters
  have h102 : ∀ m i K M, n - i = m → tS b n p ≤ i → i ≤ n → tK b n p = 1 → (∀ j, tS b n p ≤ j → j < i → kAt b n j = 1) → frN J K L M → K 73 7 = nI i → K 73 8 = nI 1 → K 73 9 = nI (tS b n p) → K 73 10 = nI 0 → M 73 11 = wI b (tS b n p) (i - tS b n p) → T_X11_next_73_p102 e (nI (i - tS b n p)) K M Q := by
    intro m
    induction m with
    | zero =>
      intro i K M hm hi1 hi2 hk hj f k7 k8 k9 k10 kw
      have k6 : K 73 6 = nI n := (f.2.1 6 (by decide) (by decide) (by decide) (by decide)).trans h6
      refine b_X11_next_73_p102 ?_
      rw [k7]
      refine c_isByte k6 hn (by omega) (fun h => by omega) (fun _ => ⟨fun _ => ?_, fun h => absurd rfl h⟩)
      have hE : tE b n p = i := tE_eq (Or.inl hk) hi1 hi2 (fun j h1 h2 => by rw [hk]; exact hj j h1 h2) (by omega)
      refine hQ K M f ⟨k6, by rw [hE]; exact k7, by rw [hk]; exact k8, k9, ⟨0, by omega, k10, fun h => by omega⟩, fun _ j hj8 => ?_⟩
      rw [kw, ← hE]
      exact w_is hp hk hj8
    | succ m ih =>
      intro i K M hm hi1 hi2 hk hj f k7 k8 k9 k10 kw
      have k6 : K 73 6 = nI n := (f.2.1 6 (by decide) (by decide) (by decide) (by decide)).trans h6
      have kb : K 78 i = b i := by rw [f.1 78 (by decide)]; exact hb i (by omega)
      refine b_X11_next_73_p102 ?_
      rw [k7]
      refine c_isByte k6 hn (by omega) (fun h1 h2 h3 => ?_) (fun h0 => ⟨fun _ => ?_, fun h => absurd rfl h⟩)
      · refine ⟨fun h => absurd h nz10, fun _ => ?_⟩
        have hki : kc (b i) = 1 := by
          rw [kb] at h2 h3
          unfold kc
          rw [if_pos ⟨h2, h3⟩]
        have hkA : kAt b n i = 1 := by unfold kAt; rw [if_pos (by omega)]; exact hki
        obtain ⟨d, d1, d2, d3⟩ := kc_1 hki
        have hnx : ∀ M', (∀ a, a ≠ 73 → M' a = L a) → M' 73 11 = wI b (tS b n p) (i + 1 - tS b n p) → T_X11_next_73_p102 e (nI (i - tS b n p) + nI 1) (va_up K 73 (va_up (K 73) 7 (K 73 7 + nI 1))) M' Q := by
          intro M' hM1 hM2
          rw [nI_add, k7, nI_add, show i - tS b n p + 1 = i + 1 - tS b n p from by omega]
          refine ih (i + 1) _ M' (by omega) (by omega) (by omega) hk (fun j h1 h2 => ?_) ⟨fun a ha => by rw [up_n ha]; exact f.1 a ha, fun k q1 q2 q3 q4 => by rw [up_s, up_n q1]; exact f.2.1 k q1 q2 q3 q4, hM1⟩ rfl k8 k9 k10 hM2
          by_cases hji : j = i
          · rw [hji]; exact hkA
          · exact hj j h1 (by omega)
        have hw1 : i - tS b n p ≤ 11 → (27 : Int64) * M 73 11 + (K 78 i).toInt64 - (96 : Int64) = wI b (tS b n p) (i + 1 - tS b n p) := by
          intro hle
          rw [kw, kb, d3]
          unfold wI
          rw [if_pos (by omega), if_pos (by omega), w_step d2, show i + 1 - tS b n p = i - tS b n p + 1 from by omega, wN_s, show tS b n p + (i - tS b n p) = i from by omega, d3, ltr_d d2]
        have hw2 : ¬ i - tS b n p ≤ 11 → (-1 : Int64) = wI b (tS b n p) (i + 1 - tS b n p) := by
          intro hle
          unfold wI
          rw [if_neg (by omega)]
        have kcl : (K 73 7).toNatClampNeg = i := by rw [k7]; exact nI_clamp (by omega)
        refine ⟨fun hle => ⟨by rw [k7]; exact vp_in_nI (by omega) (by decide), fun _ => ?_, fun h => absurd hle h⟩, fun hle => ⟨fun h => absurd h hle, fun _ => ?_⟩⟩
        · rw [nI_leI (by omega) (by decide)] at hle
          rw [kcl]
          exact hnx _ (fun a ha => by rw [up_n ha]; exact f.2.2 a ha) (hw1 hle)
        · rw [nI_leI (by omega) (by decide)] at hle
          exact hnx _ (fun a ha => by rw [up_n ha, up_n ha]; exact f.2.2 a ha) (hw2 hle)
      · have hkA : kAt b n i ≠ 1 := by
          intro h1
          unfold kAt at h1
          rw [if_pos (by omega)] at h1
          obtain ⟨d, d1, d2, d3⟩ := kc_1 h1
          rw [kb, d3] at h0
          refine h0 ⟨by omega, ?_, ?_⟩
          · rw [nI_ltI (by omega) (by decide)]; omega
          · rw [nI_ltI (by decide) (by omega)]; omega
        have hE : tE b n p = i := tE_eq (Or.inl hk) hi1 hi2 (fun j h1 h2 => by rw [hk]; exact hj j h1 h2) (fun _ => by rw [hk]; exact hkA)
        refine hQ K M f ⟨k6, by rw [hE]; exact k7, by rw [hk]; exact k8, k9, ⟨0, by omega, k10, fun h => by omega⟩, fun _ j hj8 => ?_⟩
        rw [kw, ← hE]
        exact w_is hp hk hj8
  -- digits
  have h208 : ∀ m i K M, n - i = m → tS b n p ≤ i → i ≤ n → tK b n p = 2 → (∀ j, tS b n p ≤ j → j < i → kAt b n j = 2) → frN J K L M → K 73 7 = nI i → K 73 8 = nI 2 → K 73 9 = nI (tS b n p) → K 73 10 = nI (rvl b (tS b n p) (i - tS b n p)) → T_X11_next_73_p208 e K M Q := by
    intro m
    induction m with
    | zero =>
      intro i K M hm hi1 hi2 hk hj f k7 k8 k9 k10
      have k6 : K 73 6 = nI n := (f.2.1 6 (by decide) (by decide) (by decide) (by decide)).trans h6
      refine b_X11_next_73_p208 ?_
      rw [k7]
      refine c_isByte k6 hn (by omega) (fun h => by omega) (fun _ => ⟨fun _ => ?_, fun h => absurd rfl h⟩)
      have hE : tE b n p = i := tE_eq (Or.inr hk) hi1 hi2 (fun j h1 h2 => by rw [hk]; exact hj j h1 h2) (by omega)
      have hd : ∀ i', i' < i - tS b n p → dgt (b (tS b n p + i')) < 10 := fun i' hi' => by
        have h1 := hj (tS b n p + i') (by omega) (by omega)
        unfold kAt at h1
        rw [if_pos (by omega)] at h1
        obtain ⟨d, d1, d2, d3⟩ := kc_2 h1
        omega
      have hc := rvl_c hd
      refine hQ K M f ⟨k6, by rw [hE]; exact k7, by rw [hk]; exact k8, k9, ⟨_, Nat.le_trans (rvl_b hd) (by decide), k10, fun _ => ?_⟩, fun h => by omega⟩
      unfold tV
      rw [hE]
      exact hc
    | succ m ih =>
      intro i K M hm hi1 hi2 hk hj f k7 k8 k9 k10
      have k6 : K 73 6 = nI n := (f.2.1 6 (by decide) (by decide) (by decide) (by decide)).trans h6
      have kb : K 78 i = b i := by rw [f.1 78 (by decide)]; exact hb i (by omega)
      have hd : ∀ i', i' < i - tS b n p → dgt (b (tS b n p + i')) < 10 := fun i' hi' => by
        have h1 := hj (tS b n p + i') (by omega) (by omega)
        unfold kAt at h1
        rw [if_pos (by omega)] at h1
        obtain ⟨d, d1, d2, d3⟩ := kc_2 h1
        omega
      have hvb := rvl_b hd
      refine b_X11_next_73_p208 ?_
      rw [k7]
      refine c_isByte k6 hn (by omega) (fun h1 h2 h3 => ?_) (fun h0 => ⟨fun _ => ?_, fun h => absurd rfl h⟩)
      · refine ⟨fun h => absurd h nz10, fun _ => ?_⟩
        have hno : ¬ (¬ b i < nI 97 ∧ ¬ nI 122 < b i) := by
          rw [kb] at h3
          intro h4
          have := h4.1
          rw [Int32.lt_iff_toInt_lt, nI_toInt (by decide)] at h3 this
          omega
        have hki : kc (b i) = 2 := by
          rw [kb] at h2 h3
          unfold kc
          rw [if_neg hno, if_pos ⟨h2, h3⟩]
        have hkA : kAt b n i = 2 := by unfold kAt; rw [if_pos (by omega)]; exact hki
        obtain ⟨d, d1, d2, d3⟩ := kc_2 hki
        have kcl : (K 73 7).toNatClampNeg = i := by rw [k7]; exact nI_clamp (by omega)
        have hnx : ∀ v, v = rvl b (tS b n p) (i + 1 - tS b n p) → T_X11_next_73_p208 e (va_up (va_up K 73 (va_up (K 73) 10 (nI v))) 73 (va_up (va_up (K 73) 10 (nI v)) 7 (K 73 7 + nI 1))) M Q := by
          intro v hv
          rw [k7, nI_add]
          refine ih (i + 1) _ M (by omega) (by omega) (by omega) hk (fun j h1 h2 => ?_) ⟨fun a ha => by rw [up_n ha, up_n ha]; exact f.1 a ha, fun k q1 q2 q3 q4 => by rw [up_s, up_n q1, up_n q4]; exact f.2.1 k q1 q2 q3 q4, f.2.2⟩ rfl k8 k9 (by rw [← hv]; rfl)
          by_cases hji : j = i
          · rw [hji]; exact hkA
          · exact hj j h1 (by omega)
        have hr : rvl b (tS b n p) (i + 1 - tS b n p) = if rvl b (tS b n p) (i - tS b n p) ≤ 100000 then 10 * rvl b (tS b n p) (i - tS b n p) + d else 1000000 := by
          rw [show i + 1 - tS b n p = i - tS b n p + 1 from by omega, rvl_s, show tS b n p + (i - tS b n p) = i from by omega, d3]
        rw [k10]
        refine ⟨fun hle => ⟨by rw [k7]; exact vp_in_nI (by omega) (by decide), ?_⟩, fun hle => ?_⟩
        · rw [nI_leI (by omega) (by decide)] at hle
          rw [kcl, kb, d2, pk_mul, nI_add, pk_sub (by omega)]
          exact hnx _ (by rw [hr, if_pos hle]; omega)
        · rw [nI_leI (by omega) (by decide)] at hle
          exact hnx 1000000 (by rw [hr, if_neg hle])
      · have hkA : kAt b n i ≠ 2 := by
          intro h1
          unfold kAt at h1
          rw [if_pos (by omega)] at h1
          obtain ⟨d, d1, d2, d3⟩ := kc_2 h1
          rw [kb, d2] at h0
          refine h0 ⟨by omega, ?_, ?_⟩
          · rw [nI_ltI (by omega) (by decide)]; omega
          · rw [nI_ltI (by decide) (by omega)]; omega
        have hE : tE b n p = i := tE_eq (Or.inr hk) hi1 hi2 (fun j h1 h2 => by rw [hk]; exact hj j h1 h2) (fun _ => by rw [hk]; exact hkA)
        have hc := rvl_c hd
        refine hQ K M f ⟨k6, by rw [hE]; exact k7, by rw [hk]; exact k8, k9, ⟨_, Nat.le_trans hvb (by decide), k10, fun _ => ?_⟩, fun h => by omega⟩
        unfold tV
        rw [hE]
        exact hc
  have h0 : ∀ m i K, n - i = m → p ≤ i → i ≤ n → (∀ j, p ≤ j → j < i → spb (b j) = true) → frN J K L L → K 73 7 = nI i → T_X11_next_73_p0 e K L Q := by
    intro m
    induction m using Nat.strongRecOn with
    | ind m ih =>
      intro i K hm hi1 hi2 hj f k7
      have k6 : K 73 6 = nI n := (f.2.1 6 (by decide) (by decide) (by decide) (by decide)).trans h6
      have kb : i < n → K 78 i = b i := fun h => by rw [f.1 78 (by decide)]; exact hb i (by omega)
      have hgo : i < n → spb (b i) = true → T_X11_next_73_p0 e (va_up K 73 (va_up (K 73) 7 (K 73 7 + nI 1))) L Q := by
        intro hlt hsp
        rw [k7, nI_add]
        refine ih (n - (i + 1)) (by omega) (i + 1) _ rfl (by omega) (by omega) (fun j h1 h2 => ?_) ⟨fun a ha => by rw [up_n ha]; exact f.1 a ha, fun k q1 q2 q3 q4 => by rw [up_s, up_n q1]; exact f.2.1 k q1 q2 q3 q4, f.2.2⟩ rfl
        by_cases hji : j = i
        · rw [hji]; exact hsp
        · exact hj j h1 (by omega)
      refine b_X11_next_73_p0 ?_
      rw [k7]
      refine c_isByte k6 hn (by omega) (fun a1 a2 a3 => ⟨fun h => absurd h nz10, fun _ => ?_⟩) (fun a0 => ⟨fun _ => ?_, fun h => absurd rfl h⟩)
      · have h32 : b i = nI 32 := by rw [← kb a1]; exact eq32.mp ⟨a2, a3⟩
        exact hgo a1 (by unfold spb; rw [decide_eq_true h32]; rfl)
      · rw [k7]
        refine c_isByte k6 hn (by omega) (fun a1 a2 a3 => ⟨fun h => absurd h nz10, fun _ => ?_⟩) (fun a4 => ⟨fun _ => ?_, fun h => absurd rfl h⟩)
        · have h10 : b i = nI 10 := by rw [← kb a1]; exact eq32.mp ⟨a2, a3⟩
          exact hgo a1 (by unfold spb; rw [decide_eq_true h10, Bool.or_true])
        · have hS : tS b n p = i := tS_eq hi1 hi2 hj (fun hlt => by
            unfold spb
            rw [kb hlt] at a0 a4
            rw [decide_eq_false (fun h => a0 ⟨hlt, eq32.mpr h⟩), decide_eq_false (fun h => a4 ⟨hlt, eq32.mpr h⟩)]
            rfl)
          rw [k7, k6]
          refine ⟨fun he => ?_, fun he => ?_⟩
          · rw [nI_eq (by omega) (by omega)] at he
            have hK : tK b n p = 0 := kAt_0.mpr (by omega)
            refine hQ _ _ ⟨fun a ha => by rw [up_n ha, up_n ha, up_n ha]; exact f.1 a ha, fun k q1 q2 q3 q4 => by rw [up_s, up_n q2, up_n q4, up_n q3]; exact f.2.1 k q1 q2 q3 q4, fun a ha => up_n ha⟩ ⟨k6, ?_, by rw [hK]; rfl, by rw [hS]; rfl, ⟨0, by omega, rfl, fun h => by omega⟩, fun h => by omega⟩
            unfold tE
            rw [if_neg (by omega), if_pos hK, hS]
            exact k7
          · rw [nI_eq (by omega) (by omega)] at he
            have hlt : i < n := by omega
            have kb2 := kb hlt
            generalize hK1 : va_up (va_up K 73 (va_up (K 73) 9 (nI i))) 73 (va_up (va_up (K 73) 9 (nI i)) 10 (nI 0)) = K1
            have r6 : K1 73 6 = nI n := by rw [← hK1]; exact k6
            have r7 : K1 73 7 = nI i := by rw [← hK1]; exact k7
            have r9 : K1 73 9 = nI i := by rw [← hK1]; rfl
            have r10 : K1 73 10 = nI 0 := by rw [← hK1]; rfl
            have rb : K1 78 i = b i := by rw [← hK1]; exact kb2
            have f1 : frN J K1 L (va_up L 73 (va_up (L 73) 11 (0 : Int64))) := by
              rw [← hK1]
              exact ⟨fun a ha => by rw [up_n ha, up_n ha]; exact f.1 a ha, fun k q1 q2 q3 q4 => by rw [up_s, up_n q4, up_n q3]; exact f.2.1 k q1 q2 q3 q4, fun a ha => up_n ha⟩
            have hf8 : ∀ v, frN J (va_up K1 73 (va_up (K1 73) 8 v)) L (va_up L 73 (va_up (L 73) 11 (0 : Int64))) := fun v => ⟨fun a ha => by rw [up_n ha]; exact f1.1 a ha, fun k q1 q2 q3 q4 => by rw [up_s, up_n q2]; exact f1.2.1 k q1 q2 q3 q4, f1.2.2⟩
            refine c_isByte r6 hn (by omega) (fun a1 a2 a3 => ⟨fun h => absurd h nz10, fun _ => ?_⟩) (fun a5 => ⟨fun _ => ?_, fun h => absurd rfl h⟩)
            · have hK : tK b n p = 1 := by
                unfold tK kAt
                rw [hS, if_pos hlt]
                rw [rb] at a2 a3
                unfold kc
                rw [if_pos ⟨a2, a3⟩]
              have h5 := h102 _ i (va_up K1 73 (va_up (K1 73) 8 (nI 1))) (va_up L 73 (va_up (L 73) 11 (0 : Int64))) rfl (by omega) (by omega) hK (fun j h1 h2 => by omega) (hf8 _) r7 rfl (by rw [hS]; exact r9) r10 (by rw [hS, Nat.sub_self]; rfl)
              rw [hS, Nat.sub_self] at h5
              exact h5
            · rw [r7]
              refine c_isByte r6 hn (by omega) (fun a1 a2 a3 => ⟨fun h => absurd h nz10, fun _ => ?_⟩) (fun a6 => ⟨fun _ => ?_, fun h => absurd rfl h⟩)
              · have hK : tK b n p = 2 := by
                  unfold tK kAt
                  rw [hS, if_pos hlt]
                  rw [rb] at a2 a3 a5
                  unfold kc
                  rw [if_neg (fun h => a5 ⟨hlt, h⟩), if_pos ⟨a2, a3⟩]
                exact h208 _ i (va_up K1 73 (va_up (K1 73) 8 (nI 2))) (va_up L 73 (va_up (L 73) 11 (0 : Int64))) rfl (by omega) (by omega) hK (fun j h1 h2 => by omega) (hf8 _) r7 rfl (by rw [hS]; exact r9) (by rw [hS, Nat.sub_self]; exact r10)
              · rw [r7, nI_clamp (by omega), rb]
                have hK : tK b n p = if b i = nI 59 then 3 else 4 := by
                  unfold tK kAt
                  rw [hS, if_pos hlt]
                  rw [rb] at a5 a6
                  unfold kc
                  rw [if_neg (fun h => a5 ⟨hlt, h⟩), if_neg (fun h => a6 ⟨hlt, h⟩)]
                have hE : (tK b n p = 3 ∨ tK b n p = 4) → tE b n p = i + 1 := fun h => by
                  unfold tE
                  rw [if_neg (by omega), if_neg (by omega), hS]
                refine ⟨vp_in_nI (by omega) (by decide), fun h59 => ?_, fun h59 => ?_⟩
                · rw [if_pos h59] at hK
                  rw [nI_add]
                  exact hQ _ _ ⟨fun a ha => by rw [up_n ha]; exact (hf8 _).1 a ha, fun k q1 q2 q3 q4 => by rw [up_s, up_n q1, up_n q2]; exact f1.2.1 k q1 q2 q3 q4, f1.2.2⟩ ⟨r6, by rw [hE (Or.inl hK)]; rfl, by rw [hK]; rfl, by rw [hS]; exact r9, ⟨0, by omega, r10, fun h => by omega⟩, fun h => by omega⟩
                · rw [if_neg h59] at hK
                  rw [nI_add]
                  exact hQ _ _ ⟨fun a ha => by rw [up_n ha]; exact (hf8 _).1 a ha, fun k q1 q2 q3 q4 => by rw [up_s, up_n q1, up_n q2]; exact f1.2.1 k q1 q2 q3 q4, f1.2.2⟩ ⟨r6, by rw [hE (Or.inr hK)]; rfl, by rw [hK]; rfl, by rw [hS]; exact r9, ⟨0, by omega, r10, fun h => by omega⟩, fun h => by omega⟩
  exact h0 _ p J rfl (Nat.le_refl _) hp (fun j h1 h2 => by omega) ⟨fun _ _ => rfl, fun _ _ _ _ _ => rfl, fun _ _ => rfl⟩ h7
