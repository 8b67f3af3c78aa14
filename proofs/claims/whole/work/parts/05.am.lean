/-! THE SMALL MACHINE. Its values: an int, a long, a reference (none: null; else a name), nothing (a slot that holds none). Its heap: how many cells were made, of how many slots together; of each name its kind, its length, its ints, longs, references. Kinds: below 99 an object of that class; 100 int[], 101 boolean[], 102 long[], 105 int[][], 110 + c an array of references to class c; 901 the script, 902 a string literal, 903 its bytes. Name 0 is the script, 1, 2 .. what was made, 1000000 + 2 i literal i, 1000001 + 2 i its bytes. -/
abbrev am_V : Type := Int32 ⊕ Int64 ⊕ Option Nat ⊕ Nat
abbrev vi (x : Int32) : am_V := .inl x
abbrev vl (x : Int64) : am_V := .inr (.inl x)
abbrev vr (x : Option Nat) : am_V := .inr (.inr (.inl x))
abbrev vu : am_V := .inr (.inr (.inr 0))
abbrev am_H : Type := (Nat × Nat) × (Nat → Nat) × (Nat → Nat) × (Nat → Nat → Int32) × (Nat → Nat → Int64) × (Nat → Nat → Option Nat)
def hk (h : am_H) : Nat := h.1.1
def hs (h : am_H) : Nat := h.1.2
def hkd (h : am_H) : Nat → Nat := h.2.1
def hln (h : am_H) : Nat → Nat := h.2.2.1
def hI (h : am_H) : Nat → Nat → Int32 := h.2.2.2.1
def hL (h : am_H) : Nat → Nat → Int64 := h.2.2.2.2.1
def hR (h : am_H) : Nat → Nat → Option Nat := h.2.2.2.2.2
def setI (h : am_H) (n i : Nat) (v : Int32) : am_H := ((hk h, hs h), hkd h, hln h, (fun a j => if a = n ∧ j = i then v else hI h a j), hL h, hR h)
def setL (h : am_H) (n i : Nat) (v : Int64) : am_H := ((hk h, hs h), hkd h, hln h, hI h, (fun a j => if a = n ∧ j = i then v else hL h a j), hR h)
def setR (h : am_H) (n i : Nat) (v : Option Nat) : am_H := ((hk h, hs h), hkd h, hln h, hI h, hL h, (fun a j => if a = n ∧ j = i then v else hR h a j))
/-- a new cell, its name is hk h + 1 -/
def newc (h : am_H) (kd ln sl : Nat) : am_H := ((hk h + 1, hs h + sl), (fun a => if a = hk h + 1 then kd else hkd h a), (fun a => if a = hk h + 1 then ln else hln h a), (fun a j => if a = hk h + 1 then 0 else hI h a j), (fun a j => if a = hk h + 1 then 0 else hL h a j), (fun a j => if a = hk h + 1 then none else hR h a j))
/-- n places of ints of row a, from i on, come to row b, from j on, as they were -/
def cpyI (h : am_H) (a i b j n : Nat) : am_H := ((hk h, hs h), hkd h, hln h, (fun c q => if c = b ∧ j ≤ q ∧ q < j + n then hI h a (i + (q - j)) else hI h c q), hL h, hR h)
/-- int[a][b]: the outer row, then the inner ones -/
def newg (h : am_H) (a b : Nat) : am_H := ((hk h + 1 + a, hs h + a + a * b), (fun c => if c = hk h + 1 then 105 else if hk h + 1 < c ∧ c ≤ hk h + 1 + a then 100 else hkd h c), (fun c => if c = hk h + 1 then a else if hk h + 1 < c ∧ c ≤ hk h + 1 + a then b else hln h c), (fun c j => if hk h + 1 ≤ c ∧ c ≤ hk h + 1 + a then 0 else hI h c j), (fun c j => if hk h + 1 ≤ c ∧ c ≤ hk h + 1 + a then 0 else hL h c j), (fun c j => if c = hk h + 1 then (if j < a then some (hk h + 2 + j) else none) else if hk h + 1 < c ∧ c ≤ hk h + 1 + a then none else hR h c j))
abbrev am_ix (i : Int32) (n : Nat) : Prop := 0 ≤ i ∧ i.toNatClampNeg < n
/-- the locals, one behind another; a long takes two places -/
def am_lg : am_V → Bool
  | .inr (.inl _) => true
  | _ => false
def am_set (ls : List am_V) (i : Nat) (v : am_V) : List am_V := match i with
  | 0 => ls.set 0 v
  | j + 1 => match ls[j]? with
    | some (.inr (.inl _)) => (ls.set j vu).set (j + 1) v
    | _ => ls.set (j + 1) v
def am_set2 (ls : List am_V) (i : Nat) (v : am_V) : List am_V := (am_set ls i v).set (i + 1) vu
def am_lay : List am_V → List am_V
  | [] => []
  | .inr (.inl x) :: l => .inr (.inl x) :: vu :: am_lay l
  | v :: l => v :: am_lay l
def am_ent (n : Nat) (as : List am_V) : List am_V := am_lay as ++ List.replicate (n - (am_lay as).length) vu
/-- what an answer of a small type may be -/
def am_nar (t : Option FieldType) (x : Int32) : Bool := match t with
  | some .int => true
  | some .boolean => decide (x = 0 ∨ x = 1)
  | some .char => decide (0 ≤ x ∧ x < 65536)
  | some .byte => decide (x.toInt8.toInt32 = x)
  | _ => false
noncomputable def am_sw (x : Int32) (cs : List (Int × Nat)) (d : Nat) : Nat := match cs with
  | [] => d
  | (c, t) :: cs => if x = Int32.ofInt c then t else am_sw x cs d
abbrev am_A : Type := (Nat × List am_V × List am_V × am_H) ⊕ (Option am_V × am_H) ⊕ (Nat × List am_V × List am_V)
/-- one instruction -/
noncomputable def am_do (M : Nat) (ins : Instr) (len r1 r2 : Nat) (z : Int) (cs : List (Int × Nat)) (pc : Nat) (ls st : List am_V) (h : am_H) : Option am_A :=
  match ins with
  | .aconst_null => some (.inl (pc + len, ls, vr none :: st, h))
  | .iconst _ => some (.inl (pc + len, ls, vi (Int32.ofInt z) :: st, h))
  | .bipush _ => some (.inl (pc + len, ls, vi (Int32.ofInt z) :: st, h))
  | .sipush _ => some (.inl (pc + len, ls, vi (Int32.ofInt z) :: st, h))
  | .lconst _ => some (.inl (pc + len, ls, vl (Int64.ofInt z) :: st, h))
  | .ldc2_w _ => some (.inl (pc + len, ls, vl (Int64.ofInt z) :: st, h))
  | .ldc _ => if r1 = 0 then some (.inl (pc + len, ls, vi (Int32.ofInt z) :: st, h)) else if r1 = 1 then some (.inl (pc + len, ls, vr (some (1000000 + 2 * r2)) :: st, h)) else none
  | .ldc_w _ => if r1 = 0 then some (.inl (pc + len, ls, vi (Int32.ofInt z) :: st, h)) else none
  | .iload _ => match ls[r1]? with
    | some (.inl x) => some (.inl (pc + len, ls, vi x :: st, h))
    | _ => none
  | .iload_n _ => match ls[r1]? with
    | some (.inl x) => some (.inl (pc + len, ls, vi x :: st, h))
    | _ => none
  | .lload _ => match ls[r1]? with
    | some (.inr (.inl x)) => some (.inl (pc + len, ls, vl x :: st, h))
    | _ => none
  | .lload_n _ => match ls[r1]? with
    | some (.inr (.inl x)) => some (.inl (pc + len, ls, vl x :: st, h))
    | _ => none
  | .aload _ => match ls[r1]? with
    | some (.inr (.inr (.inl x))) => some (.inl (pc + len, ls, vr x :: st, h))
    | _ => none
  | .aload_n _ => match ls[r1]? with
    | some (.inr (.inr (.inl x))) => some (.inl (pc + len, ls, vr x :: st, h))
    | _ => none
  | .istore _ => match st with
    | .inl x :: st => if r1 < ls.length then some (.inl (pc + len, am_set ls r1 (vi x), st, h)) else none
    | _ => none
  | .istore_n _ => match st with
    | .inl x :: st => if r1 < ls.length then some (.inl (pc + len, am_set ls r1 (vi x), st, h)) else none
    | _ => none
  | .lstore _ => match st with
    | .inr (.inl x) :: st => if r1 + 1 < ls.length then some (.inl (pc + len, am_set2 ls r1 (vl x), st, h)) else none
    | _ => none
  | .lstore_n _ => match st with
    | .inr (.inl x) :: st => if r1 + 1 < ls.length then some (.inl (pc + len, am_set2 ls r1 (vl x), st, h)) else none
    | _ => none
  | .astore _ => match st with
    | .inr (.inr (.inl x)) :: st => if r1 < ls.length then some (.inl (pc + len, am_set ls r1 (vr x), st, h)) else none
    | _ => none
  | .astore_n _ => match st with
    | .inr (.inr (.inl x)) :: st => if r1 < ls.length then some (.inl (pc + len, am_set ls r1 (vr x), st, h)) else none
    | _ => none
  | .iinc _ _ => match ls[r1]? with
    | some (.inl x) => some (.inl (pc + len, am_set ls r1 (vi (x + Int32.ofInt z)), st, h))
    | _ => none
  | .iadd => match st with
    | .inl y :: .inl x :: st => some (.inl (pc + len, ls, vi (x + y) :: st, h))
    | _ => none
  | .isub => match st with
    | .inl y :: .inl x :: st => some (.inl (pc + len, ls, vi (x - y) :: st, h))
    | _ => none
  | .imul => match st with
    | .inl y :: .inl x :: st => some (.inl (pc + len, ls, vi (x * y) :: st, h))
    | _ => none
  | .iand => match st with
    | .inl y :: .inl x :: st => some (.inl (pc + len, ls, vi (x &&& y) :: st, h))
    | _ => none
  | .ior => match st with
    | .inl y :: .inl x :: st => some (.inl (pc + len, ls, vi (x ||| y) :: st, h))
    | _ => none
  | .ixor => match st with
    | .inl y :: .inl x :: st => some (.inl (pc + len, ls, vi (x ^^^ y) :: st, h))
    | _ => none
  | .idiv => match st with
    | .inl y :: .inl x :: st => if y = 0 then none else some (.inl (pc + len, ls, vi (x / y) :: st, h))
    | _ => none
  | .irem => match st with
    | .inl y :: .inl x :: st => if y = 0 then none else some (.inl (pc + len, ls, vi (x - x / y * y) :: st, h))
    | _ => none
  | .ishl => match st with
    | .inl y :: .inl x :: st => some (.inl (pc + len, ls, vi (x <<< (y &&& 31)) :: st, h))
    | _ => none
  | .ishr => match st with
    | .inl y :: .inl x :: st => some (.inl (pc + len, ls, vi (x >>> (y &&& 31)) :: st, h))
    | _ => none
  | .iushr => match st with
    | .inl y :: .inl x :: st => some (.inl (pc + len, ls, vi (x.toUInt32 >>> (y.toUInt32 &&& Int32.toUInt32 31)).toInt32 :: st, h))
    | _ => none
  | .ineg => match st with
    | .inl x :: st => some (.inl (pc + len, ls, vi (-x) :: st, h))
    | _ => none
  | .ladd => match st with
    | .inr (.inl y) :: .inr (.inl x) :: st => some (.inl (pc + len, ls, vl (x + y) :: st, h))
    | _ => none
  | .lsub => match st with
    | .inr (.inl y) :: .inr (.inl x) :: st => some (.inl (pc + len, ls, vl (x - y) :: st, h))
    | _ => none
  | .lmul => match st with
    | .inr (.inl y) :: .inr (.inl x) :: st => some (.inl (pc + len, ls, vl (x * y) :: st, h))
    | _ => none
  | .land => match st with
    | .inr (.inl y) :: .inr (.inl x) :: st => some (.inl (pc + len, ls, vl (x &&& y) :: st, h))
    | _ => none
  | .lor => match st with
    | .inr (.inl y) :: .inr (.inl x) :: st => some (.inl (pc + len, ls, vl (x ||| y) :: st, h))
    | _ => none
  | .ldiv => match st with
    | .inr (.inl y) :: .inr (.inl x) :: st => if y = 0 then none else some (.inl (pc + len, ls, vl (x / y) :: st, h))
    | _ => none
  | .lrem => match st with
    | .inr (.inl y) :: .inr (.inl x) :: st => if y = 0 then none else some (.inl (pc + len, ls, vl (x - x / y * y) :: st, h))
    | _ => none
  | .lneg => match st with
    | .inr (.inl x) :: st => some (.inl (pc + len, ls, vl (-x) :: st, h))
    | _ => none
  | .lshl => match st with
    | .inl y :: .inr (.inl x) :: st => some (.inl (pc + len, ls, vl (x <<< (y.toInt64 &&& 63)) :: st, h))
    | _ => none
  | .lshr => match st with
    | .inl y :: .inr (.inl x) :: st => some (.inl (pc + len, ls, vl (x >>> (y.toInt64 &&& 63)) :: st, h))
    | _ => none
  | .lcmp => match st with
    | .inr (.inl y) :: .inr (.inl x) :: st => some (.inl (pc + len, ls, vi (lg_cmp x y) :: st, h))
    | _ => none
  | .i2l => match st with
    | .inl x :: st => some (.inl (pc + len, ls, vl x.toInt64 :: st, h))
    | _ => none
  | .l2i => match st with
    | .inr (.inl x) :: st => some (.inl (pc + len, ls, vi x.toInt32 :: st, h))
    | _ => none
  | .i2b => match st with
    | .inl x :: st => some (.inl (pc + len, ls, vi x.toInt8.toInt32 :: st, h))
    | _ => none
  | .i2s => match st with
    | .inl x :: st => some (.inl (pc + len, ls, vi x.toInt16.toInt32 :: st, h))
    | _ => none
  | .i2c => match st with
    | .inl x :: st => some (.inl (pc + len, ls, vi (x.toUInt32 % 65536).toInt32 :: st, h))
    | _ => none
  | .dup => match st with
    | v :: st => if am_lg v = true then none else some (.inl (pc + len, ls, v :: v :: st, h))
    | _ => none
  | .pop => match st with
    | v :: st => if am_lg v = true then none else some (.inl (pc + len, ls, st, h))
    | _ => none
  | .dup_x1 => match st with
    | v :: w :: st => if am_lg v = true ∨ am_lg w = true then none else some (.inl (pc + len, ls, v :: w :: v :: st, h))
    | _ => none
  | .dup2 => match st with
    | v :: w :: st => if am_lg v = true ∨ am_lg w = true then none else some (.inl (pc + len, ls, v :: w :: v :: w :: st, h))
    | _ => none
  | .goto _ => some (.inl (r1, ls, st, h))
  | .ifCond .eq _ => match st with
    | .inl x :: st => if x = 0 then some (.inl (r1, ls, st, h)) else some (.inl (pc + len, ls, st, h))
    | _ => none
  | .ifCond .ne _ => match st with
    | .inl x :: st => if x ≠ 0 then some (.inl (r1, ls, st, h)) else some (.inl (pc + len, ls, st, h))
    | _ => none
  | .ifCond .lt _ => match st with
    | .inl x :: st => if x < 0 then some (.inl (r1, ls, st, h)) else some (.inl (pc + len, ls, st, h))
    | _ => none
  | .ifCond .ge _ => match st with
    | .inl x :: st => if 0 ≤ x then some (.inl (r1, ls, st, h)) else some (.inl (pc + len, ls, st, h))
    | _ => none
  | .ifCond .gt _ => match st with
    | .inl x :: st => if 0 < x then some (.inl (r1, ls, st, h)) else some (.inl (pc + len, ls, st, h))
    | _ => none
  | .ifCond .le _ => match st with
    | .inl x :: st => if x ≤ 0 then some (.inl (r1, ls, st, h)) else some (.inl (pc + len, ls, st, h))
    | _ => none
  | .if_icmp .eq _ => match st with
    | .inl y :: .inl x :: st => if x = y then some (.inl (r1, ls, st, h)) else some (.inl (pc + len, ls, st, h))
    | _ => none
  | .if_icmp .ne _ => match st with
    | .inl y :: .inl x :: st => if x ≠ y then some (.inl (r1, ls, st, h)) else some (.inl (pc + len, ls, st, h))
    | _ => none
  | .if_icmp .lt _ => match st with
    | .inl y :: .inl x :: st => if x < y then some (.inl (r1, ls, st, h)) else some (.inl (pc + len, ls, st, h))
    | _ => none
  | .if_icmp .ge _ => match st with
    | .inl y :: .inl x :: st => if y ≤ x then some (.inl (r1, ls, st, h)) else some (.inl (pc + len, ls, st, h))
    | _ => none
  | .if_icmp .gt _ => match st with
    | .inl y :: .inl x :: st => if y < x then some (.inl (r1, ls, st, h)) else some (.inl (pc + len, ls, st, h))
    | _ => none
  | .if_icmp .le _ => match st with
    | .inl y :: .inl x :: st => if x ≤ y then some (.inl (r1, ls, st, h)) else some (.inl (pc + len, ls, st, h))
    | _ => none
  | .ifnull _ => match st with
    | .inr (.inr (.inl x)) :: st => if x = none then some (.inl (r1, ls, st, h)) else some (.inl (pc + len, ls, st, h))
    | _ => none
  | .ifnonnull _ => match st with
    | .inr (.inr (.inl x)) :: st => if x ≠ none then some (.inl (r1, ls, st, h)) else some (.inl (pc + len, ls, st, h))
    | _ => none
  | .tableswitch _ _ _ _ => match st with
    | .inl x :: st => some (.inl (am_sw x cs r1, ls, st, h))
    | _ => none
  | .lookupswitch _ _ => match st with
    | .inl x :: st => some (.inl (am_sw x cs r1, ls, st, h))
    | _ => none
  | .getstatic _ => if r1 = 1 then some (.inl (pc + len, ls, vi 1 :: st, h)) else none
  | .getfield _ => match st with
    | .inr (.inr (.inl (some n))) :: st =>
      if r1 = 902 then (if hkd h n = 902 then (if r2 = 0 then some (.inl (pc + len, ls, vr (hR h n 0) :: st, h)) else if r2 = 1 then some (.inl (pc + len, ls, vi (hI h n 1) :: st, h)) else none) else none)
      else if hkd h n = r1 then (if am_ft r1 r2 = 0 ∨ am_ft r1 r2 = 3 then some (.inl (pc + len, ls, vi (hI h n r2) :: st, h)) else if am_ft r1 r2 = 1 then some (.inl (pc + len, ls, vl (hL h n r2) :: st, h)) else if am_ft r1 r2 = 2 then some (.inl (pc + len, ls, vr (hR h n r2) :: st, h)) else none) else none
    | _ => none
  | .putfield _ => match st with
    | .inl x :: .inr (.inr (.inl (some n))) :: st => if hkd h n = r1 ∧ (am_ft r1 r2 = 0 ∨ (am_ft r1 r2 = 3 ∧ (x = 0 ∨ x = 1))) then some (.inl (pc + len, ls, st, setI h n r2 x)) else none
    | .inr (.inl x) :: .inr (.inr (.inl (some n))) :: st => if hkd h n = r1 ∧ am_ft r1 r2 = 1 then some (.inl (pc + len, ls, st, setL h n r2 x)) else none
    | .inr (.inr (.inl x)) :: .inr (.inr (.inl (some n))) :: st => if hkd h n = r1 ∧ am_ft r1 r2 = 2 then some (.inl (pc + len, ls, st, setR h n r2 x)) else none
    | _ => none
  | .iaload => match st with
    | .inl i :: .inr (.inr (.inl (some n))) :: st => if (hkd h n = 100 ∨ hkd h n = 901) ∧ am_ix i (hln h n) then some (.inl (pc + len, ls, vi (hI h n i.toNatClampNeg) :: st, h)) else none
    | _ => none
  | .baload => match st with
    | .inl i :: .inr (.inr (.inl (some n))) :: st => if (hkd h n = 101 ∨ hkd h n = 903) ∧ am_ix i (hln h n) then some (.inl (pc + len, ls, vi (hI h n i.toNatClampNeg) :: st, h)) else none
    | _ => none
  | .laload => match st with
    | .inl i :: .inr (.inr (.inl (some n))) :: st => if hkd h n = 102 ∧ am_ix i (hln h n) then some (.inl (pc + len, ls, vl (hL h n i.toNatClampNeg) :: st, h)) else none
    | _ => none
  | .aaload => match st with
    | .inl i :: .inr (.inr (.inl (some n))) :: st => if (105 ≤ hkd h n ∧ hkd h n < 200) ∧ am_ix i (hln h n) then some (.inl (pc + len, ls, vr (hR h n i.toNatClampNeg) :: st, h)) else none
    | _ => none
  | .iastore => match st with
    | .inl x :: .inl i :: .inr (.inr (.inl (some n))) :: st => if hkd h n = 100 ∧ am_ix i (hln h n) then some (.inl (pc + len, ls, st, setI h n i.toNatClampNeg x)) else none
    | _ => none
  | .bastore => match st with
    | .inl x :: .inl i :: .inr (.inr (.inl (some n))) :: st => if hkd h n = 101 ∧ am_ix i (hln h n) ∧ (x = 0 ∨ x = 1) then some (.inl (pc + len, ls, st, setI h n i.toNatClampNeg x)) else none
    | _ => none
  | .lastore => match st with
    | .inr (.inl x) :: .inl i :: .inr (.inr (.inl (some n))) :: st => if hkd h n = 102 ∧ am_ix i (hln h n) then some (.inl (pc + len, ls, st, setL h n i.toNatClampNeg x)) else none
    | _ => none
  | .aastore => match st with
    | .inr (.inr (.inl (some v))) :: .inl i :: .inr (.inr (.inl (some n))) :: st => if (110 ≤ hkd h n ∧ hkd h n < 190) ∧ hkd h v + 110 = hkd h n ∧ am_ix i (hln h n) then some (.inl (pc + len, ls, st, setR h n i.toNatClampNeg (some v))) else none
    | _ => none
  | .arraylength => match st with
    | .inr (.inr (.inl (some n))) :: st => if (100 ≤ hkd h n ∧ hkd h n < 200) ∨ hkd h n = 901 ∨ hkd h n = 903 then some (.inl (pc + len, ls, vi (nI (hln h n)) :: st, h)) else none
    | _ => none
  | .new _ => if hk h < 900000 then some (.inl (pc + len, ls, vr (some (hk h + 1)) :: st, newc h r1 0 ((am_ftl.getD r1 []).length))) else none
  | .newarray _ => match st with
    | .inl x :: st => if hk h < 900000 ∧ am_ix x 4096 then some (.inl (pc + len, ls, vr (some (hk h + 1)) :: st, newc h r1 x.toNatClampNeg x.toNatClampNeg)) else none
    | _ => none
  | .anewarray _ => match st with
    | .inl x :: st => if hk h < 900000 ∧ am_ix x 4096 then some (.inl (pc + len, ls, vr (some (hk h + 1)) :: st, newc h (110 + r1) x.toNatClampNeg x.toNatClampNeg)) else none
    | _ => none
  | .multianewarray _ _ => match st with
    | .inl y :: .inl x :: st => if hk h < 900000 ∧ am_ix x 4096 ∧ am_ix y 4096 then some (.inl (pc + len, ls, vr (some (hk h + 1)) :: st, newg h x.toNatClampNeg y.toNatClampNeg)) else none
    | _ => none
  | .ireturn => match st with
    | [.inl x] => if am_nar (am_rt M) x = true then some (.inr (.inl (some (vi x), h))) else none
    | _ => none
  | .lreturn => match st with
    | [.inr (.inl x)] => if am_rt M = some .long then some (.inr (.inl (some (vl x), h))) else none
    | _ => none
  | .areturn => match st with
    | [.inr (.inr (.inl x))] => (match am_rt M with
      | some (.object _) => some (.inr (.inl (some (vr x), h)))
      | _ => none)
    | _ => none
  | .return_ => match st with
    | [] => if am_rt M = none then some (.inr (.inl (none, h))) else none
    | _ => none
  | .invokestatic _ => if r2 ≤ st.length ∧ (st.drop r2).length ≤ 4 then some (.inr (.inr (r1, (st.take r2).reverse, st.drop r2))) else none
  | .invokespecial _ => (match st[r2]? with
    | some (.inr (.inr (.inl (some _)))) => if (st.drop (r2 + 1)).length ≤ 4 then some (.inr (.inr (r1, (st.take (r2 + 1)).reverse, st.drop (r2 + 1)))) else none
    | _ => none)
  | .invokevirtual _ => (match st[r2]? with
    | some (.inr (.inr (.inl (some n)))) => if hkd h n = am_mc r1 ∧ (st.drop (r2 + 1)).length ≤ 4 then some (.inr (.inr (r1, (st.take (r2 + 1)).reverse, st.drop (r2 + 1)))) else none
    | _ => none)
  | _ => none
noncomputable def am_step (M pc : Nat) (ls st : List am_V) (h : am_H) : Option am_A := match am_code M pc with
  | none => none
  | some (ins, len, _, r1, r2, z, cs) => am_do M ins len r1 r2 z cs pc ls st h
/-- calls that are no code of ours -/
noncomputable def am_prim (j : Nat) (as : List am_V) (h : am_H) : Option (Option am_V × am_H) :=
  if j = 9001 then some (none, h)
  else if j = 9002 then (match as with
    | [.inr (.inr (.inl (some a))), .inl i, .inr (.inr (.inl (some b))), .inl k, .inl n] => if hkd h a = 100 ∧ hkd h b = 100 ∧ 0 ≤ i ∧ 0 ≤ k ∧ 0 ≤ n ∧ i.toNatClampNeg + n.toNatClampNeg ≤ hln h a ∧ k.toNatClampNeg + n.toNatClampNeg ≤ hln h b then some (none, cpyI h a i.toNatClampNeg b k.toNatClampNeg n.toNatClampNeg) else none
    | _ => none)
  else if j = 9003 then (match as with
    | [.inl i, .inl n] => if 0 ≤ i ∧ i < n then some (none, h) else none
    | _ => none)
  else if j = 9004 then (match as with
    | [.inl x, .inl y] => some (some (vi (if x < y then y else x)), h)
    | _ => none)
  else if j = 9005 then (match as with
    | [.inl x, .inl y] => some (some (vi (if y < x then y else x)), h)
    | _ => none)
  else if j = 9006 then (match as with
    | [.inl x] => some (some (vi (if 0 ≤ x then x else 0 - x)), h)
    | _ => none)
  else none
noncomputable def am_run : Nat → Nat → Nat → Nat → List am_V → List am_V → am_H → Option (Option am_V × am_H)
  | 0, _, _, _, _, _, _ => none
  | n + 1, d, M, pc, ls, st, h => match am_step M pc ls st h with
    | none => none
    | some (.inl (pc', ls', st', h')) => am_run n d M pc' ls' st' h'
    | some (.inr (.inl x)) => some x
    | some (.inr (.inr (j, as, st'))) => match d with
      | 0 => none
      | d' + 1 => (if 9000 ≤ j then (if 3 ≤ d' then am_prim j as h else none) else if (am_lay as).length ≤ am_ml j then am_run n d' j 0 (am_ent (am_ml j) as) [] h else none).bind fun x => am_run n (d' + 1) M (pc + 3) ls (x.1.toList ++ st') x.2
/-- what a run comes to, however long it takes -/
noncomputable def Ev (d M pc : Nat) (ls st : List am_V) (h : am_H) : Option (Option am_V × am_H) := @dite _ (∃ x n, am_run n d M pc ls st h = some x) (Classical.propDecidable _) (fun q => some q.choose) (fun _ => none)
/-- a call -/
noncomputable def Cl (d j : Nat) (as : List am_V) (h : am_H) : Option (Option am_V × am_H) := if (am_lay as).length ≤ am_ml j then Ev d j 0 (am_ent (am_ml j) as) [] h else none
noncomputable def Cx (d j : Nat) (as : List am_V) (h : am_H) : Option (Option am_V × am_H) := if 9000 ≤ j then (if 3 ≤ d then am_prim j as h else none) else Cl d j as h
theorem am_run_none {n d M pc : Nat} {ls st : List am_V} {h : am_H} (q : am_step M pc ls st h = none) : am_run (n + 1) d M pc ls st h = none := by rw [am_run, q]
theorem am_run_go {n d M pc pc' : Nat} {ls st ls' st' : List am_V} {h h' : am_H} (q : am_step M pc ls st h = some (.inl (pc', ls', st', h'))) : am_run (n + 1) d M pc ls st h = am_run n d M pc' ls' st' h' := by rw [am_run, q]
theorem am_run_ret {n d M pc : Nat} {ls st : List am_V} {h : am_H} {x : Option am_V × am_H} (q : am_step M pc ls st h = some (.inr (.inl x))) : am_run (n + 1) d M pc ls st h = some x := by rw [am_run, q]
theorem am_run_call0 {n M pc j : Nat} {ls st as st' : List am_V} {h : am_H} (q : am_step M pc ls st h = some (.inr (.inr (j, as, st')))) : am_run (n + 1) 0 M pc ls st h = none := by rw [am_run, q]
theorem am_run_call {n d M pc j : Nat} {ls st as st' : List am_V} {h : am_H} (q : am_step M pc ls st h = some (.inr (.inr (j, as, st')))) : am_run (n + 1) (d + 1) M pc ls st h = (if 9000 ≤ j then (if 3 ≤ d then am_prim j as h else none) else if (am_lay as).length ≤ am_ml j then am_run n d j 0 (am_ent (am_ml j) as) [] h else none).bind fun x => am_run n (d + 1) M (pc + 3) ls (x.1.toList ++ st') x.2 := by rw [am_run, q]
/-- the four ways of a step -/
theorem am_ways (M pc : Nat) (ls st : List am_V) (h : am_H) : am_step M pc ls st h = none ∨ (∃ pc' ls' st' h', am_step M pc ls st h = some (.inl (pc', ls', st', h'))) ∨ (∃ x, am_step M pc ls st h = some (.inr (.inl x))) ∨ ∃ j as st', am_step M pc ls st h = some (.inr (.inr (j, as, st'))) := by
  rcases am_step M pc ls st h with _ | (⟨a, b, c, d⟩ | (x | ⟨j, as, st'⟩))
  · exact Or.inl rfl
  · exact Or.inr (Or.inl ⟨a, b, c, d, rfl⟩)
  · exact Or.inr (Or.inr (Or.inl ⟨x, rfl⟩))
  · exact Or.inr (Or.inr (Or.inr ⟨j, as, st', rfl⟩))
theorem am_mono : ∀ (n d M pc : Nat) (ls st : List am_V) (h : am_H) (x : Option am_V × am_H), am_run n d M pc ls st h = some x → am_run (n + 1) d M pc ls st h = some x := by
  intro n
  induction n with
  | zero => intro d M pc ls st h x hx; simp [am_run] at hx
  | succ n ih =>
    intro d M pc ls st h x hx
    rcases am_ways M pc ls st h with q | ⟨_, _, _, _, q⟩ | ⟨_, q⟩ | ⟨j, as, st', q⟩
    · rw [am_run_none q] at hx; cases hx
    · rw [am_run_go q] at hx ⊢; exact ih _ _ _ _ _ _ _ hx
    · rw [am_run_ret q] at hx ⊢; exact hx
    · cases d with
      | zero => rw [am_run_call0 q] at hx; cases hx
      | succ d =>
        rw [am_run_call q] at hx ⊢
        obtain ⟨y, h1, h2⟩ := Option.bind_eq_some_iff.mp hx
        refine Option.bind_eq_some_iff.mpr ⟨y, ?_, ih _ _ _ _ _ _ _ h2⟩
        by_cases hj : 9000 ≤ j
        · rw [if_pos hj] at h1 ⊢; exact h1
        · rw [if_neg hj] at h1 ⊢
          by_cases hq : (am_lay as).length ≤ am_ml j
          · rw [if_pos hq] at h1 ⊢; exact ih _ _ _ _ _ _ _ h1
          · rw [if_neg hq] at h1; cases h1
theorem am_monoK (k : Nat) {n d M pc : Nat} {ls st : List am_V} {h : am_H} {x : Option am_V × am_H} (hx : am_run n d M pc ls st h = some x) : am_run (n + k) d M pc ls st h = some x := by
  induction k with
  | zero => exact hx
  | succ k ih => exact am_mono _ _ _ _ _ _ _ _ ih
theorem am_det {n n' d M pc : Nat} {ls st : List am_V} {h : am_H} {x y : Option am_V × am_H} (hx : am_run n d M pc ls st h = some x) (hy : am_run n' d M pc ls st h = some y) : x = y := by
  have h1 := am_monoK n' hx
  have h2 := am_monoK n hy
  rw [Nat.add_comm] at h2
  exact Option.some.inj (h1.symm.trans h2)
theorem Ev_iff {d M pc : Nat} {ls st : List am_V} {h : am_H} {x : Option am_V × am_H} : Ev d M pc ls st h = some x ↔ ∃ n, am_run n d M pc ls st h = some x := by
  unfold Ev
  constructor
  · intro hx
    split at hx
    · rename_i q
      cases hx
      exact q.choose_spec
    · cases hx
  · intro ⟨n, hn⟩
    have q : ∃ x n, am_run n d M pc ls st h = some x := ⟨x, n, hn⟩
    rw [dif_pos q]
    obtain ⟨n', hn'⟩ := q.choose_spec
    rw [am_det hn' hn]
theorem Ev_none {d M pc : Nat} {ls st : List am_V} {h : am_H} (q : am_step M pc ls st h = none) : Ev d M pc ls st h = none := by
  cases he : Ev d M pc ls st h with
  | none => rfl
  | some x =>
    obtain ⟨n, hn⟩ := Ev_iff.mp he
    cases n with
    | zero => simp [am_run] at hn
    | succ n => rw [am_run_none q] at hn; cases hn
theorem Ev_go {d M pc pc' : Nat} {ls st ls' st' : List am_V} {h h' : am_H} (q : am_step M pc ls st h = some (.inl (pc', ls', st', h'))) : Ev d M pc ls st h = Ev d M pc' ls' st' h' := by
  refine Option.ext fun x => ?_
  rw [Ev_iff, Ev_iff]
  constructor
  · intro ⟨n, hn⟩
    cases n with
    | zero => simp [am_run] at hn
    | succ n => rw [am_run_go q] at hn; exact ⟨n, hn⟩
  · intro ⟨n, hn⟩
    exact ⟨n + 1, by rw [am_run_go q]; exact hn⟩
theorem Ev_ret {d M pc : Nat} {ls st : List am_V} {h : am_H} {x : Option am_V × am_H} (q : am_step M pc ls st h = some (.inr (.inl x))) : Ev d M pc ls st h = some x := Ev_iff.mpr ⟨1, am_run_ret q⟩
theorem Ev_call {d M pc j : Nat} {ls st as st' : List am_V} {h : am_H} (q : am_step M pc ls st h = some (.inr (.inr (j, as, st')))) : Ev (d + 1) M pc ls st h = (Cx d j as h).bind fun x => Ev (d + 1) M (pc + 3) ls (x.1.toList ++ st') x.2 := by
  refine Option.ext fun x => ?_
  rw [Ev_iff]
  unfold Cx Cl
  constructor
  · intro ⟨n, hn⟩
    cases n with
    | zero => simp [am_run] at hn
    | succ n =>
      rw [am_run_call q] at hn
      obtain ⟨y, h1, h2⟩ := Option.bind_eq_some_iff.mp hn
      refine Option.bind_eq_some_iff.mpr ⟨y, ?_, Ev_iff.mpr ⟨n, h2⟩⟩
      by_cases hj : 9000 ≤ j
      · rw [if_pos hj] at h1 ⊢; exact h1
      · rw [if_neg hj] at h1 ⊢
        by_cases hq : (am_lay as).length ≤ am_ml j
        · rw [if_pos hq] at h1 ⊢; exact Ev_iff.mpr ⟨n, h1⟩
        · rw [if_neg hq] at h1; cases h1
  · intro hx
    obtain ⟨y, h1, h2⟩ := Option.bind_eq_some_iff.mp hx
    obtain ⟨n2, hn2⟩ := Ev_iff.mp h2
    by_cases hj : 9000 ≤ j
    · rw [if_pos hj] at h1
      refine ⟨n2 + 1, ?_⟩
      rw [am_run_call q, if_pos hj]
      exact Option.bind_eq_some_iff.mpr ⟨y, h1, hn2⟩
    · rw [if_neg hj] at h1
      by_cases hq : (am_lay as).length ≤ am_ml j
      case neg => rw [if_neg hq] at h1; cases h1
      rw [if_pos hq] at h1
      obtain ⟨n1, hn1⟩ := Ev_iff.mp h1
      refine ⟨n1 + n2 + 1, ?_⟩
      rw [am_run_call q, if_neg hj, if_pos hq]
      refine Option.bind_eq_some_iff.mpr ⟨y, am_monoK n2 hn1, ?_⟩
      rw [Nat.add_comm n1 n2]
      exact am_monoK n1 hn2
/-- deeper calls are no harm -/
theorem am_deep : ∀ (n d M pc : Nat) (ls st : List am_V) (h : am_H) (x : Option am_V × am_H), am_run n d M pc ls st h = some x → am_run n (d + 1) M pc ls st h = some x := by
  intro n
  induction n with
  | zero => intro d M pc ls st h x hx; simp [am_run] at hx
  | succ n ih =>
    intro d M pc ls st h x hx
    rcases am_ways M pc ls st h with q | ⟨_, _, _, _, q⟩ | ⟨_, q⟩ | ⟨j, as, st', q⟩
    · rw [am_run_none q] at hx; cases hx
    · rw [am_run_go q] at hx ⊢; exact ih _ _ _ _ _ _ _ hx
    · rw [am_run_ret q] at hx ⊢; exact hx
    · cases d with
      | zero => rw [am_run_call0 q] at hx; cases hx
      | succ d =>
        rw [am_run_call q] at hx ⊢
        obtain ⟨y, h1, h2⟩ := Option.bind_eq_some_iff.mp hx
        refine Option.bind_eq_some_iff.mpr ⟨y, ?_, ih _ _ _ _ _ _ _ h2⟩
        by_cases hj : 9000 ≤ j
        · rw [if_pos hj] at h1 ⊢
          by_cases h3 : 3 ≤ d
          · rw [if_pos h3] at h1; rw [if_pos (by omega)]; exact h1
          · rw [if_neg h3] at h1; cases h1
        · rw [if_neg hj] at h1 ⊢
          by_cases hq : (am_lay as).length ≤ am_ml j
          · rw [if_pos hq] at h1 ⊢; exact ih _ _ _ _ _ _ _ h1
          · rw [if_neg hq] at h1; cases h1
theorem Ev_deep {d d' M pc : Nat} {ls st : List am_V} {h : am_H} {x : Option am_V × am_H} (hd : d ≤ d') (hx : Ev d M pc ls st h = some x) : Ev d' M pc ls st h = some x := by
  obtain ⟨n, hn⟩ := Ev_iff.mp hx
  refine Ev_iff.mpr ⟨n, ?_⟩
  obtain ⟨k, rfl⟩ := Nat.exists_eq_add_of_le hd
  clear hd hx
  induction k with
  | zero => exact hn
  | succ k ih => exact am_deep _ _ _ _ _ _ _ _ ih
