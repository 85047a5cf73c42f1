/-! A MACHINE OF MY OWN over numbered objects: what is in the objects and arrays (ints, longs, references, by number and place), how many there are. 'am_w' is what one instruction asks (a weakest precondition); 'am_T' says of the real machine that it comes, from a frame that shows such a state, to the end of the method with 'Post'. -/
/-- numbers and the order of making: a thing's place in that order, by its number; and back (beyond 37 both are one) -/
def am_pl : List Nat := [0, 25, 1, 2, 3, 4, 5, 6, 7, 8, 9, 10, 11, 12, 13, 26, 27, 28, 29, 30, 31, 32, 33, 34, 35, 36, 37, 14, 15, 16, 17, 18, 19, 20, 21, 22, 23, 24]
def am_ql : List Nat := [0, 2, 3, 4, 5, 6, 7, 8, 9, 10, 11, 12, 13, 14, 27, 28, 29, 30, 31, 32, 33, 34, 35, 36, 37, 1, 15, 16, 17, 18, 19, 20, 21, 22, 23, 24, 25, 26]
def am_pm (a : Nat) : Nat := am_pl.getD a a
def am_ip (n : Nat) : Nat := am_ql.getD n n
theorem am_pm_hi {a : Nat} (h : 38 ≤ a) : am_pm a = a := by
  unfold am_pm
  rw [List.getD_eq_getElem?_getD, List.getElem?_eq_none (show am_pl.length ≤ a from h)]
  rfl
theorem am_ip_hi {a : Nat} (h : 38 ≤ a) : am_ip a = a := by
  unfold am_ip
  rw [List.getD_eq_getElem?_getD, List.getElem?_eq_none (show am_ql.length ≤ a from h)]
  rfl
theorem am_pm_ip (n : Nat) : am_pm (am_ip n) = n := by
  rcases Nat.lt_or_ge n 38 with h | h
  · have q : ∀ n, n < 38 → am_pm (am_ip n) = n := by decide
    exact q n h
  · rw [am_ip_hi h, am_pm_hi h]
theorem am_ip_pm (n : Nat) : am_ip (am_pm n) = n := by
  rcases Nat.lt_or_ge n 38 with h | h
  · have q : ∀ n, n < 38 → am_ip (am_pm n) = n := by decide
    exact q n h
  · rw [am_pm_hi h, am_ip_hi h]
theorem am_pm_lt {a N : Nat} (hN : 38 ≤ N) (h : a < N) : am_pm a < N := by
  rcases Nat.lt_or_ge a 38 with h1 | h1
  · have q : ∀ n, n < 38 → am_pm n < 38 := by decide
    exact Nat.lt_of_lt_of_le (q a h1) hN
  · rw [am_pm_hi h1]
    exact h
theorem am_pm_gt {a N : Nat} (hN : 38 ≤ N) (h : am_pm a < N) : a < N := by
  rcases Nat.lt_or_ge a 38 with h1 | h1
  · omega
  · rw [am_pm_hi h1] at h
    exact h
theorem am_ip_lt {a N : Nat} (hN : 38 ≤ N) (h : a < N) : am_ip a < N := am_pm_gt hN (by rw [am_pm_ip]; exact h)
abbrev am_S : Type := (Nat → Nat → Int32) × (Nat → Nat → Int64) × (Nat → Nat → Option Nat) × Nat
def am_I (σ : am_S) : Nat → Nat → Int32 := σ.1
def am_L (σ : am_S) : Nat → Nat → Int64 := σ.2.1
def am_R (σ : am_S) : Nat → Nat → Option Nat := σ.2.2.1
def am_n (σ : am_S) : Nat := σ.2.2.2
def am_sI (σ : am_S) (a : Nat) (f : Nat → Int32) : am_S := (va_up σ.1 a f, σ.2)
def am_sL (σ : am_S) (a : Nat) (f : Nat → Int64) : am_S := (σ.1, va_up σ.2.1 a f, σ.2.2)
def am_sR (σ : am_S) (a : Nat) (f : Nat → Option Nat) : am_S := (σ.1, σ.2.1, va_up σ.2.2.1 a f, σ.2.2.2)
/-- new int[6][40] as number 53: its rows are 54 to 59 -/
def am_new7 (σ : am_S) : am_S := (fun a => if 53 ≤ a ∧ a < 60 then fun _ => 0 else σ.1 a, fun a => if 53 ≤ a ∧ a < 60 then fun _ => 0 else σ.2.1 a, fun a => if a = 53 then (fun i => if i < 6 then some (54 + i) else none) else if 53 ≤ a ∧ a < 60 then fun _ => none else σ.2.2.1 a, 60)
/-- one more object or array, all default -/
def am_new (σ : am_S) : am_S := (va_up σ.1 (am_ip σ.2.2.2) (fun _ => 0), va_up σ.2.1 (am_ip σ.2.2.2) (fun _ => 0), va_up σ.2.2.1 (am_ip σ.2.2.2) (fun _ => none), σ.2.2.2 + 1)
def am_o (r : Option Nat) : Value := match r with
  | some a => .ref a
  | none => .null
/-- what the machine's start gives: class numbers, slots; array classes; the first new address; addresses of old things (0: the script); the script -/
abbrev am_G : Type := va_G × (Nat → ClassId) × Nat × (Nat → Nat) × Nat × (Nat → Int32)
def am_gD (G : am_G) : va_G := G.1
def am_gc (G : am_G) : Nat → ClassId := G.2.1
def am_gB (G : am_G) : Nat := G.2.2.1
def am_ga (G : am_G) : Nat → Nat := G.2.2.2.1
def am_gL (G : am_G) : Nat := G.2.2.2.2.1
def am_gx (G : am_G) : Nat → Int32 := G.2.2.2.2.2
/-- numbers from here on are old things -/
abbrev am_old : Nat := 1000000
/-- where the thing of a number lies -/
def am_ph (G : am_G) (a : Nat) : Nat := am_gB G + am_pm a
def am_ad (G : am_G) (a : Nat) : Nat := if a < am_old then am_ph G a else am_ga G (a - am_old)
def am_v (G : am_G) (v : Value) : Value := match v with
  | .ref a => .ref (am_ad G a)
  | v => v
def am_fv (G : am_G) (σ : am_S) (c a k : Nat) : Value := match am_ft c k with
  | 1 => .long (am_L σ a k)
  | 2 => va_rf ((am_R σ a k).map (am_ph G))
  | _ => .int (am_I σ a k)
def am_E (G : am_G) (σ : am_S) (a : Nat) : va_E :=
  if am_kd a < 12 then .inr (am_kd a, (List.range (am_fn (am_kd a))).map (am_fv G σ (am_kd a) a))
  else .inl (am_gc G (am_kd a), am_ln a, if am_kd a = 14 then .inr (.inl (am_L σ a)) else if am_kd a < 16 then .inl (am_I σ a) else .inr (.inr (.inr (.inr (fun j => (am_R σ a j).map (am_ph G))))))
def am_W (G : am_G) (σ : am_S) : va_W := (List.range (am_n σ)).map (fun i => (am_gB G + i, am_E G σ (am_ip i)))
/-- the array classes, by kind less 12 -/
def am_tys (G : am_G) : List (ClassId × FieldType) := [(am_gc G 12, .byte), (am_gc G 13, .int), (am_gc G 14, .long), (am_gc G 15, .boolean), (am_gc G 16, .object "SpentTurns$Numbers"), (am_gc G 17, .object "SpentTurns$Town"), (am_gc G 18, .array .int)]
def am_A (G : am_G) : Nat → Prop := fun q => am_gB G ≤ q
def am_xt : List String := ["town", "crossings", "uses", "half", "street", "turn", "errand", "at"]
/-- the texts: lengths, bytes -/
def am_xl : List Nat := [4, 9, 4, 4, 6, 4, 6, 2]
def am_xb : List (List Int32) := [[116, 111, 119, 110], [99, 114, 111, 115, 115, 105, 110, 103, 115], [117, 115, 101, 115], [104, 97, 108, 102], [115, 116, 114, 101, 101, 116], [116, 117, 114, 110], [101, 114, 114, 97, 110, 100], [97, 116]]
/-- the texts' objects (old numbers 1 and on), their rows of bytes (20 and on), two statics of the JDK's -/
def am_Tx (G : am_G) (U : State) (H : Heap) : Prop := vk_S 8 am_xl am_xb (fun j => am_ga G (1 + j)) (fun j => am_ga G (20 + j)) (am_A G) U H ∧ va_Z "java/lang/String" "COMPACT_STRINGS" "Z" (.int 1) (am_A G) U H ∧ va_Zq "jdk/internal/util/Preconditions" "SIOOBE_FORMATTER" "Ljava/util/function/BiFunction;" (am_A G) U H
/-- int[][] can be made -/
def am_AOA (U : State) : Prop := (Cond.arrayOver (.array .int)).before #[] U = true
/-- what the tables say, wherever one stands -/
def am_Kx (G : am_G) (U : State) : Prop := va_K (am_gD G) am_cl (am_tys G) U ∧ (∀ w ∈ am_wn, va_Nw w U) ∧ va_AO "SpentTurns$Numbers" U ∧ va_AO "SpentTurns$Town" U ∧ (∀ j, j < 8 → vk_R "SpentTurns$Reader" (am_si.getD j 0) (am_xt.getD j "") (am_ga G (1 + j)) U) ∧ am_AOA U
/-- old things: the script -/
def am_Ox (G : am_G) (U : State) (H : Heap) : Prop := va_X (am_ga G 0) (am_gL G) (am_gx G) U H ∧ am_ga G 0 < am_gB G ∧ am_Tx G U H
/-- the heap shows the state -/
def am_Rp (G : am_G) (σ : am_S) (H : Heap) : Prop := va_P (am_gD G) am_cl (am_W G σ) H ∧ H.size = am_gB G + am_n σ ∧ am_n σ < am_old ∧ (∀ a k r, am_pm a < am_n σ → am_R σ a k = some r → am_pm r < am_n σ) ∧ am_I σ am_old = am_gx G ∧ am_R σ am_old 0 = some (am_gL G)
/-- a value that there can be -/
def am_vk (n : Nat) (v : Value) : Prop := match v with
  | .ref a => am_pm a < n ∨ am_old ≤ a
  | .retAddr _ => False
  | .float _ => False
  | .double _ => False
  | _ => True
/-- which return it is -/
def am_rt (M : am_MI) (pc : Nat) (v : Option Value) : Prop := match v with
  | none => am_mr M = none ∧ decode (am_mb M) pc = .ok (.return_, 1)
  | some (.int x) => (∃ ty, am_mr M = some ty ∧ narrow ty (.int x) = .int x) ∧ decode (am_mb M) pc = .ok (.ireturn, 1)
  | some (.long _) => am_mr M = some .long ∧ decode (am_mb M) pc = .ok (.lreturn, 1)
  | _ => False
abbrev am_LV : Type := List (Nat × Value)
def am_get (lv : am_LV) (i : Nat) : Option Value := match lv with
  | [] => none
  | q :: lv => match Nat.beq q.1 i with
    | true => some q.2
    | false => am_get lv i
def am_st1 (lv : am_LV) (i : Nat) (v : Value) : am_LV := (i, v) :: lv.filter (fun q => !(q.1 == i) && !(q.1 + 1 == i && q.2.category == 2))
def am_st2 (lv : am_LV) (i : Nat) (v : Value) : am_LV := (i, v) :: lv.filter (fun q => !(q.1 == i) && (!(q.1 == i + 1) && !(q.1 + 1 == i && q.2.category == 2)))
def am_lvm (G : am_G) (lv : am_LV) : am_LV := lv.map (fun q => (q.1, am_v G q.2))
/-- the frame's surroundings -/
def am_Cx (M : am_MI) (G : am_G) (p : Program) (s : State) (m : MethodId) (args : Array Value) (meth : Method) (c : Code) : Prop :=
  p.tables.exec = Jvm.exec ∧ c.code = am_mb M ∧ c.maxLocals = am_ml M ∧ meth.sig.returnType = am_mr M ∧ meth.locks = false ∧ s.vm.findClass (am_my M).cls = some m.cls ∧ meth.name = (am_my M).name ∧ (∀ w ∈ am_wg, w.before args s = true) ∧ am_Kx G s ∧ am_Ox G s s.heap ∧ am_gB G ≤ s.heap.size
/-- THE JUDGEMENT: from pc, with these locals, this stack, this state, the real machine comes to the method's return with Post; calls d deep at most, cb cells of sb slots at most are made -/
def am_T (P : Nat → am_MI) (d mi pc : Nat) (lv : am_LV) (st : List Value) (σ : am_S) (cb sb : Nat) (Post : Option Value → am_S → Prop) : Prop :=
  ∀ (G : am_G) (p : Program) (l : Launch) (e : Env) (R : Room) (s : State) (m : MethodId) (args : Array Value) (below : List Frame) (meth : Method) (c : Code) (H : Heap) (locs : List Loc) (cells slots : Nat) (Q : State → Prop) (ls : Array Slot),
    am_Cx (P mi) G p s m args meth c → d ≤ R.frames → 200 * d ≤ R.locals → cells + cb ≤ R.cells → slots + sb ≤ R.slots → am_Rp G σ H → (∀ v ∈ st, am_vk (am_n σ) v) → (∀ q ∈ lv, am_vk (am_n σ) q.2) → va_S (am_A G) s.heap H locs → lv_has ls (am_ml (P mi)) (am_lvm G lv) →
    (∀ (v : Option Value) (σ' : am_S) (pc' : Nat) (ls' : Array Slot) (H' : Heap) (locs' : List Loc) (cells' slots' : Nat), Post v σ' → am_Rp G σ' H' → (∀ x, v = some x → am_vk (am_n σ') x) → va_S (am_A G) s.heap H' locs' → cells' ≤ R.cells → slots' ≤ R.slots → am_rt (P mi) pc' v →
      W p l e R s m args below meth c H' locs' cells' slots' Q (F0 m pc' ls' (v.toList.map (am_v G)))) →
    W p l e R s m args below meth c H locs cells slots Q (F0 m pc ls (st.map (am_v G)))
/-- a call from outside: from the entry -/
def am_C (P : Nat → am_MI) (d mi : Nat) (as : List Value) (σ : am_S) (cb sb : Nat) (Post : Option Value → am_S → Prop) : Prop := am_T P d mi 0 (lv_args 0 as) [] σ cb sb Post
def am_p1i (st : List Value) (k : Int32 → List Value → Prop) : Prop := match st with
  | .int x :: r => k x r
  | _ => False
def am_p2i (st : List Value) (k : Int32 → Int32 → List Value → Prop) : Prop := match st with
  | .int y :: .int x :: r => k x y r
  | _ => False
def am_p1l (st : List Value) (k : Int64 → List Value → Prop) : Prop := match st with
  | .long x :: r => k x r
  | _ => False
def am_p2l (st : List Value) (k : Int64 → Int64 → List Value → Prop) : Prop := match st with
  | .long y :: .long x :: r => k x y r
  | _ => False
def am_pil (st : List Value) (k : Int64 → Int32 → List Value → Prop) : Prop := match st with
  | .int y :: .long x :: r => k x y r
  | _ => False
def am_pr (st : List Value) (k : Nat → List Value → Prop) : Prop := match st with
  | .ref a :: r => k a r
  | _ => False
/-- an array and a place in it -/
def am_pa (st : List Value) (k : Nat → Int32 → List Value → Prop) : Prop := match st with
  | .int i :: .ref a :: r => k a i r
  | _ => False
def am_pv (st : List Value) (k : Value → List Value → Prop) : Prop := match st with
  | v :: r => k v r
  | _ => False
def am_b (b : Bool) (p : Prop) : Prop := match b with
  | true => p
  | false => False
def am_cs (st : List Value) : Nat := (st.map fun v => v.category).sum
def am_isi (v : Value) : Bool := match v with
  | .int _ => true
  | _ => false
def am_isr (v : Value) : Bool := match v with
  | .ref _ => true
  | .null => true
  | _ => false
def am_isl (v : Value) : Bool := match v with
  | .long _ => true
  | _ => false
/-- the place of a jump -/
def am_j (pc : Nat) (off : Int) : Nat := ((pc : Int) + off).toNat
def am_cmp (c : ClassFile.Cond) (x y : Int32) : Prop := match c with
  | .eq => x = y
  | .ne => x ≠ y
  | .lt => x < y
  | .ge => y ≤ x
  | .gt => y < x
  | .le => x ≤ y
def am_swl (x : Int32) (lo : Int) (l : List Int) (K : Int → Prop) : Prop := match l with
  | [] => True
  | t :: l => (x.toInt = lo → K t) ∧ am_swl x (lo + 1) l K
def am_lkl (x : Int32) (l : List (Int × Int)) (D : Int) (K : Int → Prop) : Prop := match l with
  | [] => K D
  | t :: l => (x.toInt = t.1 → K t.2) ∧ (¬ x.toInt = t.1 → am_lkl x l D K)
/-- the kind of an array of numbers -/
def am_ak (t : ArrayType) : Nat := match t with
  | .byte => 12
  | .int => 13
  | .long => 14
  | .boolean => 15
  | _ => 98
/-- WHAT ONE INSTRUCTION ASKS. K: what follows (place, locals, stack, state, cells and slots that may be made still); Kr: the return; Kc: a call -/
def am_w (P : Nat → am_MI) (d : Nat) (M : am_MI) (ins : Instr) (pc len : Nat) (lv : am_LV) (st : List Value) (σ : am_S) (cb sb : Nat) (K : Nat → am_LV → List Value → am_S → Nat → Nat → Prop) (Kr : Option Value → am_S → Prop) (Kc : Nat → List Value → am_S → Nat → Nat → (Option Value → am_S → Prop) → Prop) : Prop :=
  match ins with
  | .iconst n => K (pc + len) lv (.int (Int32.ofInt n) :: st) σ cb sb
  | .bipush n => K (pc + len) lv (.int (Int8.ofInt n).toInt32 :: st) σ cb sb
  | .sipush n => K (pc + len) lv (.int (Int16.ofInt n).toInt32 :: st) σ cb sb
  | .jsr n => K (pc + len) lv (.int (Int32.ofInt n) :: st) σ cb sb
  | .lconst n => K (pc + len) lv (.long (Int64.ofNat n.val) :: st) σ cb sb
  | .ldc2_w n => K (pc + len) lv (.long (Int64.ofNat n) :: st) σ cb sb
  | .iload_n i => match am_get lv i.val with
    | some (.int x) => K (pc + len) lv (.int x :: st) σ cb sb
    | _ => False
  | .iload i => match am_get lv i with
    | some (.int x) => K (pc + len) lv (.int x :: st) σ cb sb
    | _ => False
  | .lload_n i => match am_get lv i.val with
    | some (.long x) => K (pc + len) lv (.long x :: st) σ cb sb
    | _ => False
  | .lload i => match am_get lv i with
    | some (.long x) => K (pc + len) lv (.long x :: st) σ cb sb
    | _ => False
  | .aload_n i => match am_get lv i.val with
    | some (.ref x) => K (pc + len) lv (.ref x :: st) σ cb sb
    | _ => False
  | .aload i => match am_get lv i with
    | some (.ref x) => K (pc + len) lv (.ref x :: st) σ cb sb
    | _ => False
  | .istore_n i => am_p1i st (fun x r => am_b (Nat.blt i.val (am_ml M)) (K (pc + len) (am_st1 lv i.val (.int x)) r σ cb sb))
  | .istore i => am_p1i st (fun x r => am_b (Nat.blt i (am_ml M)) (K (pc + len) (am_st1 lv i (.int x)) r σ cb sb))
  | .astore_n i => am_pr st (fun x r => am_b (Nat.blt i.val (am_ml M)) (K (pc + len) (am_st1 lv i.val (.ref x)) r σ cb sb))
  | .astore i => am_pr st (fun x r => am_b (Nat.blt i (am_ml M)) (K (pc + len) (am_st1 lv i (.ref x)) r σ cb sb))
  | .lstore_n i => am_p1l st (fun x r => am_b (Nat.blt (i.val + 1) (am_ml M)) (K (pc + len) (am_st2 lv i.val (.long x)) r σ cb sb))
  | .lstore i => am_p1l st (fun x r => am_b (Nat.blt (i + 1) (am_ml M)) (K (pc + len) (am_st2 lv i (.long x)) r σ cb sb))
  | .iinc i n => match am_get lv i with
    | some (.int x) => am_b (Nat.blt i (am_ml M)) (K (pc + len) (am_st1 lv i (.int (x + Int32.ofInt n))) st σ cb sb)
    | _ => False
  | .iadd => am_p2i st (fun x y r => K (pc + len) lv (.int (x + y) :: r) σ cb sb)
  | .isub => am_p2i st (fun x y r => K (pc + len) lv (.int (x - y) :: r) σ cb sb)
  | .imul => am_p2i st (fun x y r => K (pc + len) lv (.int (x * y) :: r) σ cb sb)
  | .iand => am_p2i st (fun x y r => K (pc + len) lv (.int (x &&& y) :: r) σ cb sb)
  | .ior => am_p2i st (fun x y r => K (pc + len) lv (.int (x ||| y) :: r) σ cb sb)
  | .idiv => am_p2i st (fun x y r => ¬ y = 0 ∧ K (pc + len) lv (.int (x / y) :: r) σ cb sb)
  | .irem => am_p2i st (fun x y r => ¬ y = 0 ∧ K (pc + len) lv (.int (x - x / y * y) :: r) σ cb sb)
  | .ishl => am_p2i st (fun x y r => K (pc + len) lv (.int (x <<< (y &&& 31)) :: r) σ cb sb)
  | .ishr => am_p2i st (fun x y r => K (pc + len) lv (.int (x >>> (y &&& 31)) :: r) σ cb sb)
  | .iushr => am_p2i st (fun x y r => K (pc + len) lv (.int (x.toUInt32 >>> (y.toUInt32 &&& Int32.toUInt32 31)).toInt32 :: r) σ cb sb)
  | .ladd => am_p2l st (fun x y r => K (pc + len) lv (.long (x + y) :: r) σ cb sb)
  | .lsub => am_p2l st (fun x y r => K (pc + len) lv (.long (x - y) :: r) σ cb sb)
  | .lmul => am_p2l st (fun x y r => K (pc + len) lv (.long (x * y) :: r) σ cb sb)
  | .land => am_p2l st (fun x y r => K (pc + len) lv (.long (x &&& y) :: r) σ cb sb)
  | .lor => am_p2l st (fun x y r => K (pc + len) lv (.long (x ||| y) :: r) σ cb sb)
  | .ldiv => am_p2l st (fun x y r => ¬ y = 0 ∧ K (pc + len) lv (.long (x / y) :: r) σ cb sb)
  | .lrem => am_p2l st (fun x y r => ¬ y = 0 ∧ K (pc + len) lv (.long (x - x / y * y) :: r) σ cb sb)
  | .lshl => am_pil st (fun x y r => K (pc + len) lv (.long (x <<< (y.toInt64 &&& 63)) :: r) σ cb sb)
  | .lcmp => am_p2l st (fun x y r => K (pc + len) lv (.int (lg_cmp x y) :: r) σ cb sb)
  | .i2l => am_p1i st (fun x r => K (pc + len) lv (.long x.toInt64 :: r) σ cb sb)
  | .l2i => am_p1l st (fun x r => K (pc + len) lv (.int x.toInt32 :: r) σ cb sb)
  | .i2b => am_p1i st (fun x r => K (pc + len) lv (.int x.toInt8.toInt32 :: r) σ cb sb)
  | .i2s => am_p1i st (fun x r => K (pc + len) lv (.int x.toInt16.toInt32 :: r) σ cb sb)
  | .dup => am_pv st (fun v r => am_b (Nat.beq v.category 1) (K (pc + len) lv (v :: v :: r) σ cb sb))
  | .pop => am_pv st (fun v r => am_b (Nat.beq v.category 1) (K (pc + len) lv r σ cb sb))
  | .dup2 => am_pv st (fun v r => am_pv r (fun u r => am_b (Nat.beq v.category 1) (am_b (Nat.beq u.category 1) (K (pc + len) lv (v :: u :: v :: u :: r) σ cb sb))))
  | .ifCond c off => am_p1i st (fun x r => (am_cmp c x 0 → K (am_j pc off) lv r σ cb sb) ∧ (¬ am_cmp c x 0 → K (pc + len) lv r σ cb sb))
  | .if_icmp c off => am_p2i st (fun x y r => (am_cmp c x y → K (am_j pc off) lv r σ cb sb) ∧ (¬ am_cmp c x y → K (pc + len) lv r σ cb sb))
  | .goto off => K (am_j pc off) lv st σ cb sb
  | .ifnonnull off => am_pv st (fun v r => match v with
    | .ref _ => K (am_j pc off) lv r σ cb sb
    | .null => K (pc + len) lv r σ cb sb
    | _ => False)
  | .tableswitch dflt lo hi offs => am_p1i st (fun x r => (x.toInt < lo ∨ hi < x.toInt → K (am_j pc dflt) lv r σ cb sb) ∧ am_swl x lo offs.toList (fun off => K (am_j pc off) lv r σ cb sb))
  | .lookupswitch dflt ps => am_p1i st (fun x r => am_lkl x ps.toList dflt (fun off => K (am_j pc off) lv r σ cb sb))
  | .getfield q => am_pr st (fun a r => am_b (Nat.beq (am_kd a) (q / 64)) (K (pc + len) lv ((match am_ft (q / 64) (q % 64) with
    | 1 => .long (am_L σ a (q % 64))
    | 2 => am_o (am_R σ a (q % 64))
    | _ => .int (am_I σ a (q % 64))) :: r) σ cb sb))
  | .putfield q => am_pv st (fun v r => am_pr r (fun a r => am_b (Nat.beq (am_kd a) (q / 64)) (match am_ft (q / 64) (q % 64) with
    | 0 => (match v with
      | .int x => K (pc + len) lv r (am_sI σ a (va_up (am_I σ a) (q % 64) x)) cb sb
      | _ => False)
    | 1 => (match v with
      | .long x => K (pc + len) lv r (am_sL σ a (va_up (am_L σ a) (q % 64) x)) cb sb
      | _ => False)
    | 2 => (match v with
      | .ref b => am_b (Nat.blt b am_old) (K (pc + len) lv r (am_sR σ a (va_up (am_R σ a) (q % 64) (some b))) cb sb)
      | _ => False)
    | _ => (match v with
      | .int x => (x = 0 ∨ x = 1) ∧ K (pc + len) lv r (am_sI σ a (va_up (am_I σ a) (q % 64) x)) cb sb
      | _ => False))))
  | .iaload => am_pa st (fun a i r => match Nat.beq a am_old with
    | true => (∃ L, am_R σ am_old 0 = some L ∧ vp_in i L) ∧ K (pc + len) lv (.int (am_I σ am_old i.toNatClampNeg) :: r) σ cb sb
    | false => am_b (Nat.beq (am_kd a) 13) (vp_in i (am_ln a) ∧ K (pc + len) lv (.int (am_I σ a i.toNatClampNeg) :: r) σ cb sb))
  | .baload => am_pa st (fun a i r => am_b (Nat.beq (am_kd a) 12 || Nat.beq (am_kd a) 15) (vp_in i (am_ln a) ∧ K (pc + len) lv (.int (am_I σ a i.toNatClampNeg) :: r) σ cb sb))
  | .laload => am_pa st (fun a i r => am_b (Nat.beq (am_kd a) 14) (vp_in i (am_ln a) ∧ K (pc + len) lv (.long (am_L σ a i.toNatClampNeg) :: r) σ cb sb))
  | .aaload => am_pa st (fun a i r => am_b (Nat.beq (am_kd a) 16 || Nat.beq (am_kd a) 17 || Nat.beq (am_kd a) 18) (vp_in i (am_ln a) ∧ K (pc + len) lv (am_o (am_R σ a i.toNatClampNeg) :: r) σ cb sb))
  | .iastore => am_p1i st (fun x r => am_pa r (fun a i r => am_b (Nat.beq (am_kd a) 13) (vp_in i (am_ln a) ∧ K (pc + len) lv r (am_sI σ a (va_up (am_I σ a) i.toNatClampNeg x)) cb sb)))
  | .bastore => am_p1i st (fun x r => am_pa r (fun a i r => match am_kd a with
    | 12 => vp_in i (am_ln a) ∧ K (pc + len) lv r (am_sI σ a (va_up (am_I σ a) i.toNatClampNeg (vp_nar .byte x))) cb sb
    | 15 => vp_in i (am_ln a) ∧ K (pc + len) lv r (am_sI σ a (va_up (am_I σ a) i.toNatClampNeg (vp_nar .boolean x))) cb sb
    | _ => False))
  | .lastore => am_p1l st (fun x r => am_pa r (fun a i r => am_b (Nat.beq (am_kd a) 14) (vp_in i (am_ln a) ∧ K (pc + len) lv r (am_sL σ a (va_up (am_L σ a) i.toNatClampNeg x)) cb sb)))
  | .aastore => am_pr st (fun b r => am_pa r (fun a i r => am_b (Nat.blt b am_old) (match am_kd a with
    | 16 => am_b (Nat.beq (am_kd b) 2) (vp_in i (am_ln a) ∧ K (pc + len) lv r (am_sR σ a (va_up (am_R σ a) i.toNatClampNeg (some b))) cb sb)
    | 17 => am_b (Nat.beq (am_kd b) 7) (vp_in i (am_ln a) ∧ K (pc + len) lv r (am_sR σ a (va_up (am_R σ a) i.toNatClampNeg (some b))) cb sb)
    | _ => False)))
  | .arraylength => am_pr st (fun a r => match Nat.beq a am_old with
    | true => ∃ L, am_R σ am_old 0 = some L ∧ K (pc + len) lv (.int (Int32.ofNat L) :: r) σ cb sb
    | false => am_b (Nat.ble 12 (am_kd a) && Nat.blt (am_kd a) 16) (K (pc + len) lv (.int (Int32.ofNat (am_ln a)) :: r) σ cb sb))
  | .newarray t => am_p1i st (fun x r => am_b (Nat.beq (am_kd (am_ip (am_n σ))) (am_ak t)) (Int32.ofNat (am_ln (am_ip (am_n σ))) = x ∧ 1 ≤ cb ∧ am_ln (am_ip (am_n σ)) ≤ sb ∧ K (pc + len) lv (.ref (am_ip (am_n σ)) :: r) (am_new σ) (cb - 1) (sb - am_ln (am_ip (am_n σ)))))
  | .anewarray q => am_p1i st (fun x r => am_b (Nat.beq (am_kd (am_ip (am_n σ))) q) (Int32.ofNat (am_ln (am_ip (am_n σ))) = x ∧ 1 ≤ cb ∧ am_ln (am_ip (am_n σ)) ≤ sb ∧ K (pc + len) lv (.ref (am_ip (am_n σ)) :: r) (am_new σ) (cb - 1) (sb - am_ln (am_ip (am_n σ)))))
  | .new q => am_b (Nat.beq (am_kd (am_ip (am_n σ))) q) (1 ≤ cb ∧ am_fn q ≤ sb ∧ K (pc + len) lv (.ref (am_ip (am_n σ)) :: st) (am_new σ) (cb - 1) (sb - am_fn q))
  | .return_ => am_b (Nat.beq st.length 0) (am_mr M = none ∧ Kr none σ)
  | .ireturn => match st with
    | [.int x] => (∃ ty, am_mr M = some ty ∧ narrow ty (.int x) = .int x) ∧ Kr (some (.int x)) σ
    | _ => False
  | .lreturn => match st with
    | [.long x] => am_mr M = some .long ∧ Kr (some (.long x)) σ
    | _ => False
  | .invokevirtual mi => am_b (Nat.ble (am_ma (P mi) + 1) st.length) (am_b (Nat.ble (am_cs (st.drop (am_ma (P mi) + 1))) 8 && Nat.ble (am_cs (st.take (am_ma (P mi) + 1))) (am_ml (P mi))) (am_pr (st.drop (am_ma (P mi))) (fun a r => am_b (Nat.beq (am_kd a) (am_mc (P mi))) (∃ mc ms, mc ≤ cb ∧ ms ≤ sb ∧ Kc mi (.ref a :: (st.take (am_ma (P mi))).reverse) σ mc ms (fun v σ' => K (pc + len) lv (v.toList ++ r) σ' (cb - mc) (sb - ms))))))
  | .invokestatic mi => am_b (Nat.ble (am_ma (P mi)) st.length) (am_b (Nat.ble (am_cs (st.drop (am_ma (P mi)))) 8 && Nat.ble (am_cs (st.take (am_ma (P mi)))) (am_ml (P mi))) (∃ mc ms, mc ≤ cb ∧ ms ≤ sb ∧ Kc mi (st.take (am_ma (P mi))).reverse σ mc ms (fun v σ' => K (pc + len) lv (v.toList ++ st.drop (am_ma (P mi))) σ' (cb - mc) (sb - ms))))
  | .invokespecial mi => am_b (Nat.ble (am_ma (P mi) + 1) st.length) (am_b (Nat.ble (am_cs (st.drop (am_ma (P mi) + 1))) 8 && Nat.ble (am_cs (st.take (am_ma (P mi) + 1))) (am_ml (P mi))) (am_pr (st.drop (am_ma (P mi))) (fun a r => ∃ mc ms, mc ≤ cb ∧ ms ≤ sb ∧ Kc mi (.ref a :: (st.take (am_ma (P mi))).reverse) σ mc ms (fun v σ' => K (pc + len) lv (v.toList ++ r) σ' (cb - mc) (sb - ms)))))
  | .monitorenter => am_pr st (fun _ r => am_b (Nat.ble 1 d && Nat.ble (am_cs r) 8) (K (pc + len) lv r σ cb sb))
  | .fmul => am_p2i st (fun x y r => am_b (Nat.beq (am_n σ) 53) (x = 6 ∧ y = 40 ∧ 7 ≤ cb ∧ 246 ≤ sb ∧ K (pc + len) lv (.ref 53 :: r) (am_new7 σ) (cb - 7) (sb - 246)))
  | .ldc j => am_b (Nat.blt j 8) (K (pc + len) lv (.ref (am_old + 1 + j) :: st) σ cb sb)
  | .fadd => am_pr st (fun a r => am_b (Nat.ble 3 d && Nat.ble (am_cs r) 8 && (Nat.blt am_old a && Nat.ble a (am_old + 8))) (K (pc + len) lv (.int (Int32.ofNat (am_xl.getD (a - am_old - 1) 0)) :: r) σ cb sb))
  | .fsub => am_pa st (fun a i r => am_b (Nat.ble 5 d && Nat.ble (am_cs r) 8 && (Nat.blt am_old a && Nat.ble a (am_old + 8))) (vp_in i (am_xl.getD (a - am_old - 1) 0) ∧ K (pc + len) lv (.int (((am_xb.getD (a - am_old - 1) []).getD i.toNatClampNeg 0) &&& 255) :: r) σ cb sb))
  | .dadd => am_p2i st (fun x y r => am_b (Nat.ble 1 d && Nat.ble (am_cs r) 8) (K (pc + len) lv (.int (if y < x then y else x) :: r) σ cb sb))
  | .dsub => am_p2i st (fun x y r => am_b (Nat.ble 1 d && Nat.ble (am_cs r) 8) (K (pc + len) lv (.int (if x < y then y else x) :: r) σ cb sb))
  | .monitorexit => match st with
    | .int n :: .int dp :: .ref b :: .int sp :: .ref a :: r => am_b (Nat.ble 1 d && Nat.ble (am_cs r) 8) (am_b (Nat.beq (am_kd a) (am_kd b)) (¬ sp < 0 ∧ ¬ dp < 0 ∧ ¬ n < 0 ∧ sp.toNatClampNeg + n.toNatClampNeg ≤ am_ln a ∧ dp.toNatClampNeg + n.toNatClampNeg ≤ am_ln b ∧ (match am_kd a with
      | 13 => K (pc + len) lv r (am_sI σ b (va_cpy (am_I σ a) (am_I σ b) sp.toNatClampNeg dp.toNatClampNeg n.toNatClampNeg)) cb sb
      | 14 => K (pc + len) lv r (am_sL σ b (va_cpy (am_L σ a) (am_L σ b) sp.toNatClampNeg dp.toNatClampNeg n.toNatClampNeg)) cb sb
      | _ => False)))
    | _ => False
  | _ => False
/-- the calls that may be made with d frames left -/
def am_Kc (P : Nat → am_MI) (d : Nat) : Nat → List Value → am_S → Nat → Nat → (Option Value → am_S → Prop) → Prop := match d with
  | 0 => fun _ _ _ _ _ _ => False
  | d + 1 => am_C P d
