/-! every row of the tables is what the bytes and the words say -/
def am_cn (M : Nat) : String := (am_y M).cls
def am_sr : List (String × Nat × String) := [("DrumWorld", 85, "take late < 50 and noise < 4 ; call far < 100 or 4 = kind ;"), ("DrumWorld$Tape", 73, "take"), ("DrumWorld$Tape", 75, "call"), ("DrumWorld$Tape", 77, "or"), ("DrumWorld$Tape", 79, "and"), ("DrumWorld$Tape", 81, "not"), ("DrumWorld$Tape", 83, "late"), ("DrumWorld$Tape", 85, "far"), ("DrumWorld$Tape", 87, "kind"), ("DrumWorld$Tape", 89, "noise"), ("DrumWorld$Tape", 91, "drift"), ("DrumWorld$Tape", 93, "depth"), ("DrumWorld$Tape", 95, ""), ("DrumWorld$Tape", 60, "();+-*<=")]
def am_tsw (pc : Nat) : Int → List Int → List (Int × Nat) → Bool
  | _, [], [] => true
  | lo, o :: os, (c, t) :: cs => decide (c = lo) && decide ((pc : Int) + o = (t : Int)) && am_tsw pc (lo + 1) os cs
  | _, _, _ => false
def am_lsw (pc : Nat) : List (Int × Int) → List (Int × Nat) → Bool
  | [], [] => true
  | (k, o) :: os, (c, t) :: cs => decide (c = k) && decide ((pc : Int) + o = (t : Int)) && decide (-2147483648 ≤ k ∧ k < 2147483648) && am_lsw pc os cs
  | _, _ => false
def am_fk (M p i r1 r2 : Nat) : Bool := match am_cl[r1]? with
  | some (C, F, N) => decide (r2 < N) && decide (tables_1[p]? = some (.fieldLink (am_cn M) i C (F r2).2.1 (F r2).2.2.1)) && decide ((F r2).1 = C)
  | none => false
def am_fz (M r1 r2 : Nat) : Bool := match am_cl[r1]? with
  | some (_, F, _) => !(F r2).2.2.2 || (decide ((am_y M).name = "<init>") && decide ((F r2).1 = am_cn M))
  | none => false
def am_lk (M p i r1 : Nat) (z : Int) : Bool := if z = 1 then decide (tables_1[p]? = some (.methodLinkNest (am_cn M) i (am_y r1) "DrumWorld")) else decide (tables_1[p]? = some (.methodLink (am_cn M) i (am_y r1)))
def am_cln (M p i r1 : Nat) : Bool := match am_cl[r1]? with
  | some (C, _, _) => decide (tables_1[p]? = some (.classLink (am_cn M) i C))
  | none => false
def am_rl (M : Nat) (ins : Instr) (len p r1 r2 : Nat) (z : Int) (cs : List (Int × Nat)) (pc : Nat) : Bool :=
  match ins with
  | .iconst n => decide (len = 1) && decide (z = n)
  | .bipush n => decide (len = 2) && decide (Int32.ofInt z = (Int8.ofInt n).toInt32)
  | .sipush n => decide (len = 3) && decide (Int32.ofInt z = (Int16.ofInt n).toInt32)
  | .lconst n => decide (len = 1) && decide (Int64.ofInt z = Int64.ofNat (n : Nat))
  | .ldc2_w i => decide (len = 3) && decide (tables_1[p]? = some (.constantLong (am_cn M) i (Int64.ofInt z)))
  | .ldc i => decide (len = 2) && (if r1 = 0 then decide (tables_1[p]? = some (.constant (am_cn M) i (Int32.ofInt z))) else if r1 = 1 then (match am_sr[r2]? with
    | some (C, k, _) => decide (C = am_cn M) && decide (k = i)
    | none => false) else true)
  | .ldc_w i => decide (len = 3) && (if r1 = 0 then decide (tables_1[p]? = some (.constant (am_cn M) i (Int32.ofInt z))) else true)
  | .iload i | .lload i | .aload i | .istore i | .lstore i | .astore i => decide (len = 2) && decide (r1 = i)
  | .iload_n k | .lload_n k | .aload_n k | .istore_n k | .lstore_n k | .astore_n k => decide (len = 1) && decide ((k : Nat) = r1)
  | .iinc i n => decide (len = 3) && decide (r1 = i) && decide (z = n)
  | .goto off | .ifCond _ off | .if_icmp _ off | .ifnull off | .ifnonnull off => decide (len = 3) && decide ((pc : Int) + off = (r1 : Int))
  | .tableswitch d lo hi offs => decide ((pc : Int) + d = (r1 : Int)) && am_tsw pc lo offs.toList cs && decide (hi = lo + offs.size - 1) && decide (-1000 ≤ lo ∧ hi ≤ 1000)
  | .lookupswitch d ps => decide ((pc : Int) + d = (r1 : Int)) && am_lsw pc ps.toList cs && (ps.toList.zip (ps.toList.drop 1)).all (fun (a, next) => a.1 < next.1)
  | .getstatic i => decide (len = 3) && (!decide (r1 = 1) || decide (tables_1[p]? = some (.fieldLink (am_cn M) i "java/lang/String" "COMPACT_STRINGS" "Z")))
  | .getfield i => decide (len = 3) && (if r1 = 902 then decide (r2 < 2) && decide (tables_1[p]? = some (.fieldLink (am_cn M) i "java/lang/String" (if r2 = 0 then "value" else "coder") (if r2 = 0 then "[B" else "B"))) else am_fk M p i r1 r2)
  | .putfield i => decide (len = 3) && am_fk M p i r1 r2 && am_fz M r1 r2
  | .invokestatic i => decide (len = 3) && (if r1 = 9999 then true
    else if r1 = 9002 then decide (r2 = 5) && decide (tables_1[p]? = some (.methodLink (am_cn M) i arraycopyName))
    else if r1 = 9003 then decide (r2 = 2) && decide (tables_1[p]? = some (.methodLink (am_cn M) i ⟨"java/lang/String", "checkIndex", "(II)V"⟩))
    else if r1 = 9004 then decide (r2 = 2) && decide (tables_1[p]? = some (.methodLink (am_cn M) i Lib.Math.max.name))
    else if r1 = 9005 then decide (r2 = 2) && decide (tables_1[p]? = some (.methodLink (am_cn M) i Lib.Math.min.name))
    else if r1 = 9006 then decide (r2 = 1) && decide (tables_1[p]? = some (.methodLink (am_cn M) i Lib.Math.abs.name))
    else decide (1 ≤ r1 ∧ r1 < am_nm) && decide (am_st r1 = 1) && decide (r2 = am_np r1) && am_lk M p i r1 z)
  | .invokevirtual i => decide (len = 3) && (if r1 = 9999 then true else decide (1 ≤ r1 ∧ r1 < am_nm) && decide (am_st r1 = 0) && decide (am_mc r1 ≠ 99) && decide ((am_y r1).name ≠ "<init>") && decide (r2 = am_np r1) && am_lk M p i r1 z)
  | .invokespecial i => decide (len = 3) && (if r1 = 9999 then true else if r1 = 9001 then decide (r2 = 0) && decide (tables_1[p]? = some (.methodLink (am_cn M) i Lib.objectInit)) else decide (1 ≤ r1 ∧ r1 < am_nm) && decide (am_st r1 = 0) && decide ((am_y r1).name = "<init>") && decide (am_rt r1 = none) && decide (r2 = am_np r1) && am_lk M p i r1 z)
  | .new i => decide (len = 3) && am_cln M p i r1
  | .newarray t => decide (len = 2) && (match t with
    | .int => decide (r1 = 100)
    | .boolean => decide (r1 = 101)
    | .long => decide (r1 = 102)
    | _ => false)
  | .anewarray i => decide (len = 3) && decide (6 ≤ r1 ∧ r1 ≤ 10) && am_cln M p i r1
  | .multianewarray i k => decide (len = 4) && decide (k = 2) && decide (tables_1[p]? = some (.classLink (am_cn M) i "[[I"))
  | .aconst_null | .iadd | .isub | .imul | .iand | .ior | .ixor | .idiv | .irem | .ishl | .ishr | .iushr | .ineg | .ladd | .lsub | .lmul | .land | .lor | .ldiv | .lrem | .lneg | .lshl | .lshr | .lcmp | .i2l | .l2i | .i2b | .i2s | .i2c | .dup | .pop | .dup_x1 | .dup2 | .iaload | .baload | .laload | .aaload | .iastore | .bastore | .lastore | .aastore | .arraylength | .ireturn | .lreturn | .areturn | .return_ => decide (len = 1)
  | _ => false
def am_rk (M : Nat) (q : Nat × am_R) : Bool := match q with
  | (pc, ins, len, p, r1, r2, z, cs) => decide (decode (am_b M) pc = .ok (ins, len)) && am_rl M ins len p r1 r2 z cs pc
theorem am_halves {α : Type} (f : α → Bool) (l : List α) (n : Nat) (h1 : (l.take n).all f = true) (h2 : (l.drop n).all f = true) : l.all f = true := by
  rw [← List.take_append_drop n l, List.all_append, h1, h2]; rfl
