/-! the program as rows, and when a row is right -/
/-- a method: its name, bytes, locals, answer, how many arguments (the receiver aside), its class, its rows (place, instruction, length; index and word of a link) -/
abbrev am_MI : Type := MethodName × ByteArray × Nat × Option FieldType × Nat × Nat × List (Nat × Instr × Nat × Nat × Nat)
def am_my (M : am_MI) : MethodName := M.1
def am_mb (M : am_MI) : ByteArray := M.2.1
def am_ml (M : am_MI) : Nat := M.2.2.1
def am_mr (M : am_MI) : Option FieldType := M.2.2.2.1
def am_ma (M : am_MI) : Nat := M.2.2.2.2.1
def am_mc (M : am_MI) : Nat := M.2.2.2.2.2.1
def am_mt (M : am_MI) : List (Nat × Instr × Nat × Nat × Nat) := M.2.2.2.2.2.2
def am_find (t : List (Nat × Instr × Nat × Nat × Nat)) (pc : Nat) : Option (Nat × Instr × Nat × Nat × Nat) := match t with
  | [] => none
  | q :: t => match Nat.beq q.1 pc with
    | true => some q
    | false => am_find t pc
/-- the text constants: their entries in the class file of SpentTurns$Reader -/
def am_si : List Nat := [50, 86, 92, 94, 63, 68, 73, 129]
/-- does a word stand at a place of the tables -/
def am_wd (wp : Nat) (w : Cond) : Bool := match lw_tbl[wp]? with
  | some u => decide (u = w)
  | none => false
def am_dc (b : ByteArray) (pc : Nat) (i : Instr) (len : Nat) : Bool := match decode b pc with
  | .ok q => decide (q = (i, len))
  | .error _ => false
/-- a link by a word of one's own, or of a nest mate -/
def am_fl (own : String) (wp ix c k : Nat) : Bool := match lw_tbl[wp]? with
  | some (.fieldLink o i r n d) => decide (o = own ∧ i = ix ∧ r = (am_tT c k).1 ∧ n = (am_tT c k).2.1 ∧ d = (am_tT c k).2.2.1)
  | some (.fieldLinkNest o i r n d _) => decide (o = own ∧ i = ix ∧ r = (am_tT c k).1 ∧ n = (am_tT c k).2.1 ∧ d = (am_tT c k).2.2.1)
  | _ => false
def am_yl (own : String) (wp ix : Nat) (y : MethodName) : Bool := match lw_tbl[wp]? with
  | some (.methodLink o i z) => decide (o = own ∧ i = ix ∧ z = y)
  | some (.methodLinkNest o i z _) => decide (o = own ∧ i = ix ∧ z = y)
  | _ => false
/-- IS A ROW RIGHT: the bytes say this instruction, the tables say this link -/
def am_okb (P : Nat → am_MI) (NM : Nat) (M : am_MI) (q : Nat × Instr × Nat × Nat × Nat) : Bool := match q with
  | (pc, ins, len, ix, wp) => match ins with
    | .jsr n => (Nat.beq len 2 && am_dc (am_mb M) pc (.ldc ix) 2 || Nat.beq len 3 && am_dc (am_mb M) pc (.ldc_w ix) 3) && am_wd wp (.constant (am_my M).cls ix (Int32.ofInt n))
    | .ldc2_w n => Nat.beq len 3 && am_dc (am_mb M) pc (.ldc2_w ix) 3 && am_wd wp (.constantLong (am_my M).cls ix (Int64.ofNat n))
    | .getfield q => Nat.beq len 3 && am_dc (am_mb M) pc (.getfield ix) 3 && Nat.blt (q / 64) 12 && Nat.blt (q % 64) (am_fn (q / 64)) && am_fl (am_my M).cls wp ix (q / 64) (q % 64)
    | .putfield q => Nat.beq len 3 && am_dc (am_mb M) pc (.putfield ix) 3 && Nat.blt (q / 64) 12 && Nat.blt (q % 64) (am_fn (q / 64)) && am_fl (am_my M).cls wp ix (q / 64) (q % 64) && (!(am_tT (q / 64) (q % 64)).2.2.2 || decide ((am_my M).name = "<init>" ∧ (am_tT (q / 64) (q % 64)).1 = (am_my M).cls))
    | .anewarray q => Nat.beq len 3 && am_dc (am_mb M) pc (.anewarray ix) 3 && (Nat.beq q 16 && am_wd wp (.classLink (am_my M).cls ix "SpentTurns$Numbers") || Nat.beq q 17 && am_wd wp (.classLink (am_my M).cls ix "SpentTurns$Town"))
    | .new q => Nat.beq len 3 && am_dc (am_mb M) pc (.new ix) 3 && Nat.blt q 12 && am_wd wp (.classLink (am_my M).cls ix (am_cn q))
    | .invokevirtual mi => Nat.beq len 3 && am_dc (am_mb M) pc (.invokevirtual ix) 3 && Nat.blt mi NM && Nat.blt (am_mc (P mi)) 12 && decide ((am_my (P mi)).name ≠ "<init>") && am_yl (am_my M).cls wp ix (am_my (P mi))
    | .invokestatic mi => Nat.beq len 3 && am_dc (am_mb M) pc (.invokestatic ix) 3 && Nat.blt mi NM && Nat.beq (am_mc (P mi)) 50 && am_yl (am_my M).cls wp ix (am_my (P mi))
    | .invokespecial mi => Nat.beq len 3 && am_dc (am_mb M) pc (.invokespecial ix) 3 && Nat.blt mi NM && Nat.blt (am_mc (P mi)) 12 && am_yl (am_my M).cls wp ix (am_my (P mi)) && decide ((am_my (P mi)).name = "<init>")
    | .monitorenter => Nat.beq len 3 && am_dc (am_mb M) pc (.invokespecial ix) 3 && am_wd wp (.methodLink (am_my M).cls ix objectInit)
    | .dadd => Nat.beq len 3 && am_dc (am_mb M) pc (.invokestatic ix) 3 && am_wd wp (.methodLink (am_my M).cls ix Lib.Math.min.name)
    | .dsub => Nat.beq len 3 && am_dc (am_mb M) pc (.invokestatic ix) 3 && am_wd wp (.methodLink (am_my M).cls ix Lib.Math.max.name)
    | .monitorexit => Nat.beq len 3 && am_dc (am_mb M) pc (.invokestatic ix) 3 && am_wd wp (.methodLink (am_my M).cls ix arraycopyName)
    | .ifCond c off => am_dc (am_mb M) pc (.ifCond c off) 3 && Nat.beq len 3 && decide (0 ≤ (pc : Int) + off)
    | .if_icmp c off => am_dc (am_mb M) pc (.if_icmp c off) 3 && Nat.beq len 3 && decide (0 ≤ (pc : Int) + off)
    | .goto off => am_dc (am_mb M) pc (.goto off) 3 && Nat.beq len 3 && decide (0 ≤ (pc : Int) + off)
    | .ifnonnull off => am_dc (am_mb M) pc (.ifnonnull off) 3 && Nat.beq len 3 && decide (0 ≤ (pc : Int) + off)
    | .tableswitch d lo hi os => am_dc (am_mb M) pc (.tableswitch d lo hi os) len && decide (0 ≤ (pc : Int) + d) && os.toList.all (fun o => decide (0 ≤ (pc : Int) + o)) && decide ((os.toList.length : Int) = hi - lo + 1)
    | .lookupswitch d ps => am_dc (am_mb M) pc (.lookupswitch d ps) len && decide (0 ≤ (pc : Int) + d) && ps.toList.all (fun o => decide (0 ≤ (pc : Int) + o.2)) && (ps.toList.zip (ps.toList.drop 1)).all (fun (a, next) => a.1 < next.1)
    | .iload_n i => am_dc (am_mb M) pc (.iload_n i) 1 && Nat.beq len 1
    | .lload_n i => am_dc (am_mb M) pc (.lload_n i) 1 && Nat.beq len 1
    | .aload_n i => am_dc (am_mb M) pc (.aload_n i) 1 && Nat.beq len 1
    | .istore_n i => am_dc (am_mb M) pc (.istore_n i) 1 && Nat.beq len 1
    | .lstore_n i => am_dc (am_mb M) pc (.lstore_n i) 1 && Nat.beq len 1
    | .astore_n i => am_dc (am_mb M) pc (.astore_n i) 1 && Nat.beq len 1
    | .iload i => am_dc (am_mb M) pc (.iload i) 2 && Nat.beq len 2
    | .lload i => am_dc (am_mb M) pc (.lload i) 2 && Nat.beq len 2
    | .aload i => am_dc (am_mb M) pc (.aload i) 2 && Nat.beq len 2
    | .istore i => am_dc (am_mb M) pc (.istore i) 2 && Nat.beq len 2
    | .lstore i => am_dc (am_mb M) pc (.lstore i) 2 && Nat.beq len 2
    | .astore i => am_dc (am_mb M) pc (.astore i) 2 && Nat.beq len 2
    | .bipush n => am_dc (am_mb M) pc (.bipush n) 2 && Nat.beq len 2
    | .sipush n => am_dc (am_mb M) pc (.sipush n) 3 && Nat.beq len 3
    | .iinc i n => am_dc (am_mb M) pc (.iinc i n) 3 && Nat.beq len 3
    | .newarray t => am_dc (am_mb M) pc (.newarray t) 2 && Nat.beq len 2
    | .ldc j => Nat.beq len 2 && am_dc (am_mb M) pc (.ldc ix) 2 && Nat.blt j 8 && decide ((am_my M).cls = "SpentTurns$Reader") && Nat.beq ix (am_si.getD j 0)
    | .fadd => Nat.beq len 3 && am_dc (am_mb M) pc (.invokevirtual ix) 3 && am_wd wp (.methodLink (am_my M).cls ix ⟨"java/lang/String", "length", "()I"⟩)
    | .fsub => Nat.beq len 3 && am_dc (am_mb M) pc (.invokevirtual ix) 3 && am_wd wp (.methodLink (am_my M).cls ix ⟨"java/lang/String", "charAt", "(I)C"⟩)
    | .fmul => Nat.beq len 4 && am_dc (am_mb M) pc (.multianewarray ix 2) 4 && am_wd wp (.classLink (am_my M).cls ix "[[I")
    | i => am_dc (am_mb M) pc i 1 && Nat.beq len 1
/-- is a method right: its code stands in the tables (class 50: a static one) -/
def am_okm (M : am_MI) (wi ws wl : Nat) : Bool :=
  am_wd wi (.initialized (am_my M).cls) && plainName (am_my M).cls && decide ((am_my M).cls ≠ "java/lang/invoke/MethodHandle" ∧ (am_my M).cls ≠ "java/lang/invoke/VarHandle" ∧ (parseMethodDescriptor (am_my M).desc).map (fun d => d.parameters.length) = some (am_ma M)) && Nat.ble (am_ml M) 20 && (match Nat.beq (am_mc M) 50 with
    | true => am_wd ws (.static (am_my M))
    | false => am_wd ws (.instanceMethod (am_my M)) && Nat.blt (am_mc M) 12 && decide (am_cn (am_mc M) = (am_my M).cls) && (decide ((am_my M).name = "<init>") || am_wd wl (.selects (am_my M).cls (am_my M) (am_my M))))
def am_cwP (M : am_MI) : Prop := Cond.code (am_my M) (am_mb M) (am_ml M) (am_mr M) ∈ lw_tbl
def am_okP (P : Nat → am_MI) (NM : Nat) : Prop := (∀ mi, mi < NM → ∃ wi ws wl : Nat, am_cwP (P mi) ∧ am_okm (P mi) wi ws wl = true) ∧ (∀ mi, mi < NM → ∀ q ∈ am_mt (P mi), am_okb P NM (P mi) q = true) ∧ ∀ mi, mi < NM → (am_my (P mi)).name = "<init>" → am_mr (P mi) = none
