/-! the state behind the constructors -/
def am_r1 (im : Nat → Option Nat) (sl : Nat) : Nat → Nat → Option Nat := fun a k => match Nat.beq a 27 with
  | true => im k
  | false => match Nat.beq a am_old with
    | true => some sl
    | false => (am_rl.getD a []).getD k none
theorem tr_isCrossing (I : Nat → Nat → Int32) (L : Nat → Nat → Int64) (im : Nat → Option Nat) (sl n : Nat) (x : Int32) : am_C am_P 0 53 [.ref 3, .int x] (I, L, am_r1 im sl, n) 0 0 (fun v σ' => σ' = (I, L, am_r1 im sl, n) ∧ v = some (.int (if x < 0 then 0 else if I 3 0 ≤ x then 0 else 1))) := by
  refine am_run_ok am_OK (by decide) [] 20 _ _ _ _ _ _ ?_
  conv => whnf
  refine ⟨fun c1 => ?_, fun c1 => ?_⟩
  · conv => whnf
    sorry
  · conv => whnf
    sorry
