/-! tools: loops, frames, numbers -/
theorem lp_up {n : Nat} {S : Type} {T : Nat → S → Prop} (Inv : Nat → S → Prop) (step : ∀ i s, i < n → Inv i s → (∀ s', Inv (i + 1) s' → T (i + 1) s') → T i s) (last : ∀ s, Inv n s → T n s) : ∀ i s, i ≤ n → Inv i s → T i s := by
  have : ∀ m i s, i + m = n → Inv i s → T i s := by
    intro m
    induction m with
    | zero =>
      intro i s h hi
      have : i = n := by omega
      subst this
      exact last s hi
    | succ m ih =>
      intro i s h hi
      exact step i s (by omega) hi (fun s' h' => ih (i + 1) s' (by omega) h')
  intro i s h hi
  exact this (n - i) i s (by omega) hi
/-- a loop by a measure -/
theorem lp_ms {S : Type} {T : S → Prop} (Inv : Nat → S → Prop) (step : ∀ m s, Inv m s → (∀ m' s', m' < m → Inv m' s' → T s') → T s) : ∀ m s, Inv m s → T s := by
  intro m
  induction m using Nat.strongRecOn with
  | ind m ih =>
    intro s h
    exact step m s h (fun m' s' hm h' => ih m' hm s' h')
/-- all but these is as it was: ids of S, and, of object 73, the fields of F -/
def fr (S F : List Nat) (I J : Nat → Nat → Int32) : Prop := (∀ a, a ∉ S → a ≠ 73 → J a = I a) ∧ ∀ k, k ∉ F → J 73 k = I 73 k
theorem fr_refl (S F : List Nat) (I : Nat → Nat → Int32) : fr S F I I := ⟨fun _ _ _ => rfl, fun _ _ => rfl⟩
theorem fr_trans {S F : List Nat} {I J K : Nat → Nat → Int32} (h : fr S F I J) (g : fr S F J K) : fr S F I K := ⟨fun a ha h7 => (g.1 a ha h7).trans (h.1 a ha h7), fun k hk => (g.2 k hk).trans (h.2 k hk)⟩
theorem fr_mono {S F S' F' : List Nat} {I J : Nat → Nat → Int32} (h : fr S F I J) (hS : S.all (fun a => S'.contains a) = true) (hF : F.all (fun a => F'.contains a) = true) : fr S' F' I J := by
  refine ⟨fun a ha h7 => h.1 a (fun hm => ha ?_) h7, fun k hk => h.2 k (fun hm => hk ?_)⟩
  · exact List.contains_iff_mem.mp (List.all_eq_true.mp hS a hm)
  · exact List.contains_iff_mem.mp (List.all_eq_true.mp hF k hm)
theorem fr_up {S F : List Nat} {I J : Nat → Nat → Int32} (h : fr S F I J) {a : Nat} {f : Nat → Int32} (ha : (S.contains a && !Nat.beq a 73) = true) : fr S F I (va_up J a f) := by
  rw [Bool.and_eq_true, Bool.not_eq_true'] at ha
  have h1 : a ∈ S := List.contains_iff_mem.mp ha.1
  have h2 : a ≠ 73 := Nat.ne_of_beq_eq_false ha.2
  refine ⟨fun b hb h7 => ?_, fun k hk => ?_⟩
  · rw [va_up_ne _ _ (fun e : b = a => hb (by rw [e]; exact h1))]
    exact h.1 b hb h7
  · rw [va_up_ne _ _ (fun e => h2 e.symm)]
    exact h.2 k hk
theorem fr_73 {S F : List Nat} {I J : Nat → Nat → Int32} (h : fr S F I J) {k : Nat} {v : Int32} (ha : F.contains k = true) : fr S F I (va_up J 73 (va_up (J 73) k v)) := by
  have h1 : k ∈ F := List.contains_iff_mem.mp ha
  refine ⟨fun b hb h7 => ?_, fun j hj => ?_⟩
  · rw [va_up_ne _ _ h7]
    exact h.1 b hb h7
  · rw [va_up_self, va_up_ne _ _ (fun e : j = k => hj (by rw [e]; exact h1))]
    exact h.2 j hj
theorem up_s {α : Type} {f : Nat → α} {k : Nat} {v : α} : va_up f k v k = v := if_pos rfl
theorem up_n {α : Type} {f : Nat → α} {k j : Nat} {v : α} (h : j ≠ k) : va_up f k v j = f j := if_neg h
theorem up_u {α : Type} (f : Nat → α) (k : Nat) (v w : α) : va_up (va_up f k v) k w = va_up f k w := by
  funext j
  unfold va_up
  split <;> rfl
theorem up_id {α : Type} (f : Nat → α) (k : Nat) : va_up f k (f k) = f := by
  funext j
  unfold va_up
  split
  · rename_i h; rw [h]
  · rfl
/-- what a list's first places are, one more -/
theorem tk_1 {α : Type} {l : List Nat} {i : Nat} (h : i < l.length) (f : α → Nat → α) (a : α) : (l.take (i + 1)).foldl f a = f ((l.take i).foldl f a) (l.getD i 0) := by
  rw [List.take_add_one, List.foldl_append]
  rw [List.getElem?_eq_getElem h, List.getD_eq_getElem?_getD, List.getElem?_eq_getElem h]
  rfl
theorem gd_mem {l : List Nat} {i : Nat} (h : i < l.length) : l.getD i 0 ∈ l := by
  rw [List.getD_eq_getElem?_getD, List.getElem?_eq_getElem h]
  exact List.getElem_mem h
theorem vpT {n N : Nat} (h : n < N) (hN : N < 2 ^ 31) : vp_in (nI n) N = True := eq_true (vp_in_nI h hN)
theorem nI_leT {a b : Nat} (ha : a < 2 ^ 31) (hb : b < 2 ^ 31) : (nI a ≤ nI b) = (a ≤ b) := propext (nI_leI ha hb)
theorem nI_ltT {a b : Nat} (ha : a < 2 ^ 31) (hb : b < 2 ^ 31) : (nI a < nI b) = (a < b) := propext (nI_ltI ha hb)
theorem nI_eqT {a b : Nat} (ha : a < 2 ^ 31) (hb : b < 2 ^ 31) : (nI a = nI b) = (a = b) := propext (nI_eq ha hb)
theorem nI_64 {n : Nat} (h : n < 2 ^ 31) : (nI n).toInt64 = lN n := nI_l h
/-- an int that is a crossing: by ints, by longs -/
theorem cr_i {x : Int32} {c : Nat} (hc : c < 2 ^ 31) (h1 : ¬ x < nI 0) (h2 : ¬ nI c ≤ x) : ∃ k, k < c ∧ x = nI k := by
  obtain ⟨j, hj, rfl⟩ := nI_of h1
  refine ⟨j, ?_, rfl⟩
  rw [nI_leI hc hj] at h2
  omega
theorem toInt64_toInt (x : Int32) : x.toInt64.toInt = x.toInt := Int32.toInt_toInt64 x
theorem cr_l0 {x : Int32} : x.toInt64 < (0 : Int64) ↔ x < nI 0 := by
  rw [Int64.lt_iff_toInt_lt, toInt64_toInt, Int32.lt_iff_toInt_lt]
  exact Iff.rfl
theorem l64_sub1 {n : Nat} (h : n < 2 ^ 31) : ((nI n).toInt64 - (1 : Int64)).toInt = (n : Int) - 1 := by
  rw [Int64.toInt_sub, toInt64_toInt, nI_toInt h]
  show Int.bmod ((n : Int) - 1) (2 ^ 64) = _
  rw [Int.bmod_eq_of_le] <;> omega
theorem cr_l1 {x : Int32} {c : Nat} (hc : c < 2 ^ 31) : (nI c).toInt64 - (1 : Int64) < x.toInt64 ↔ nI c ≤ x := by
  rw [Int64.lt_iff_toInt_lt, l64_sub1 hc, toInt64_toInt, Int32.le_iff_toInt_le, nI_toInt hc]
  omega
