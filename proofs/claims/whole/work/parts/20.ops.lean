/-! one instruction as an equation of runs -/
theorem op_ite {α : Type} {c : Prop} [Decidable c] {a a' b : α} (h : a = a') : (if c then a else b) = if c then a' else b := by rw [h]
theorem op_bind {α β : Type} {r : Option α} {f g : α → Option β} (h : ∀ n, f n = g n) : r.bind f = r.bind g := by rw [funext h]
section OPS
variable {d M pc len p r1 r2 : Nat} {z : Int} {cs : List (Int × Nat)} {ls st : List am_V} {h : am_H} {i : Nat}
theorem op_null (hc : am_code M pc = some (.aconst_null, len, p, r1, r2, z, cs)) : Ev d M pc ls st h = Ev d M (pc + len) ls (vr none :: st) h := Ev_go (by unfold am_step; rw [hc]; rfl)
theorem op_iconst {n : Int} {v : Int32} (hc : am_code M pc = some (.iconst n, len, p, r1, r2, z, cs)) (hv : Int32.ofInt z = v) : Ev d M pc ls st h = Ev d M (pc + len) ls (vi v :: st) h := Ev_go (by unfold am_step; rw [hc, ← hv]; rfl)
theorem op_bipush {n : Int} {v : Int32} (hc : am_code M pc = some (.bipush n, len, p, r1, r2, z, cs)) (hv : Int32.ofInt z = v) : Ev d M pc ls st h = Ev d M (pc + len) ls (vi v :: st) h := Ev_go (by unfold am_step; rw [hc, ← hv]; rfl)
theorem op_sipush {n : Int} {v : Int32} (hc : am_code M pc = some (.sipush n, len, p, r1, r2, z, cs)) (hv : Int32.ofInt z = v) : Ev d M pc ls st h = Ev d M (pc + len) ls (vi v :: st) h := Ev_go (by unfold am_step; rw [hc, ← hv]; rfl)
theorem op_ldc {n : Nat} {v : Int32} (hc : am_code M pc = some (.ldc n, len, p, 0, r2, z, cs)) (hv : Int32.ofInt z = v) : Ev d M pc ls st h = Ev d M (pc + len) ls (vi v :: st) h := Ev_go (by unfold am_step; rw [hc, ← hv]; rfl)
theorem op_ldcS {n : Nat} (hc : am_code M pc = some (.ldc n, len, p, 1, r2, z, cs)) : Ev d M pc ls st h = Ev d M (pc + len) ls (vr (some (1000000 + 2 * r2)) :: st) h := Ev_go (by unfold am_step; rw [hc]; rfl)
theorem op_ldc_w {n : Nat} {v : Int32} (hc : am_code M pc = some (.ldc_w n, len, p, 0, r2, z, cs)) (hv : Int32.ofInt z = v) : Ev d M pc ls st h = Ev d M (pc + len) ls (vi v :: st) h := Ev_go (by unfold am_step; rw [hc, ← hv]; rfl)
theorem op_lconst {n : Fin 2} {v : Int64} (hc : am_code M pc = some (.lconst n, len, p, r1, r2, z, cs)) (hv : Int64.ofInt z = v) : Ev d M pc ls st h = Ev d M (pc + len) ls (vl v :: st) h := Ev_go (by unfold am_step; rw [hc, ← hv]; rfl)
theorem op_ldc2_w {n : Nat} {v : Int64} (hc : am_code M pc = some (.ldc2_w n, len, p, r1, r2, z, cs)) (hv : Int64.ofInt z = v) : Ev d M pc ls st h = Ev d M (pc + len) ls (vl v :: st) h := Ev_go (by unfold am_step; rw [hc, ← hv]; rfl)
theorem op_iload {x : Int32} (hc : am_code M pc = some (.iload i, len, p, r1, r2, z, cs)) (hl : ls[r1]? = some (.inl x)) : Ev d M pc ls st h = Ev d M (pc + len) ls (vi x :: st) h := Ev_go (by unfold am_step; rw [hc]; simp only [am_do, hl])
theorem op_iload_n {k : Fin 4} {x : Int32} (hc : am_code M pc = some (.iload_n k, len, p, r1, r2, z, cs)) (hl : ls[r1]? = some (.inl x)) : Ev d M pc ls st h = Ev d M (pc + len) ls (vi x :: st) h := Ev_go (by unfold am_step; rw [hc]; simp only [am_do, hl])
theorem op_lload {x : Int64} (hc : am_code M pc = some (.lload i, len, p, r1, r2, z, cs)) (hl : ls[r1]? = some (.inr (.inl x))) : Ev d M pc ls st h = Ev d M (pc + len) ls (vl x :: st) h := Ev_go (by unfold am_step; rw [hc]; simp only [am_do, hl])
theorem op_lload_n {k : Fin 4} {x : Int64} (hc : am_code M pc = some (.lload_n k, len, p, r1, r2, z, cs)) (hl : ls[r1]? = some (.inr (.inl x))) : Ev d M pc ls st h = Ev d M (pc + len) ls (vl x :: st) h := Ev_go (by unfold am_step; rw [hc]; simp only [am_do, hl])
theorem op_aload {x : Option Nat} (hc : am_code M pc = some (.aload i, len, p, r1, r2, z, cs)) (hl : ls[r1]? = some (.inr (.inr (.inl x)))) : Ev d M pc ls st h = Ev d M (pc + len) ls (vr x :: st) h := Ev_go (by unfold am_step; rw [hc]; simp only [am_do, hl])
theorem op_aload_n {k : Fin 4} {x : Option Nat} (hc : am_code M pc = some (.aload_n k, len, p, r1, r2, z, cs)) (hl : ls[r1]? = some (.inr (.inr (.inl x)))) : Ev d M pc ls st h = Ev d M (pc + len) ls (vr x :: st) h := Ev_go (by unfold am_step; rw [hc]; simp only [am_do, hl])
theorem op_istore {x : Int32} (hc : am_code M pc = some (.istore i, len, p, r1, r2, z, cs)) (hl : Nat.ble (r1 + 1) ls.length = true) : Ev d M pc ls (vi x :: st) h = Ev d M (pc + len) (am_set ls r1 (vi x)) st h := Ev_go (by unfold am_step; rw [hc]; exact if_pos (Nat.le_of_ble_eq_true hl))
theorem op_istore_n {k : Fin 4} {x : Int32} (hc : am_code M pc = some (.istore_n k, len, p, r1, r2, z, cs)) (hl : Nat.ble (r1 + 1) ls.length = true) : Ev d M pc ls (vi x :: st) h = Ev d M (pc + len) (am_set ls r1 (vi x)) st h := Ev_go (by unfold am_step; rw [hc]; exact if_pos (Nat.le_of_ble_eq_true hl))
theorem op_lstore {x : Int64} (hc : am_code M pc = some (.lstore i, len, p, r1, r2, z, cs)) (hl : Nat.ble (r1 + 1 + 1) ls.length = true) : Ev d M pc ls (vl x :: st) h = Ev d M (pc + len) (am_set2 ls r1 (vl x)) st h := Ev_go (by unfold am_step; rw [hc]; exact if_pos (Nat.le_of_ble_eq_true hl))
theorem op_lstore_n {k : Fin 4} {x : Int64} (hc : am_code M pc = some (.lstore_n k, len, p, r1, r2, z, cs)) (hl : Nat.ble (r1 + 1 + 1) ls.length = true) : Ev d M pc ls (vl x :: st) h = Ev d M (pc + len) (am_set2 ls r1 (vl x)) st h := Ev_go (by unfold am_step; rw [hc]; exact if_pos (Nat.le_of_ble_eq_true hl))
theorem op_astore {x : Option Nat} (hc : am_code M pc = some (.astore i, len, p, r1, r2, z, cs)) (hl : Nat.ble (r1 + 1) ls.length = true) : Ev d M pc ls (vr x :: st) h = Ev d M (pc + len) (am_set ls r1 (vr x)) st h := Ev_go (by unfold am_step; rw [hc]; exact if_pos (Nat.le_of_ble_eq_true hl))
theorem op_astore_n {k : Fin 4} {x : Option Nat} (hc : am_code M pc = some (.astore_n k, len, p, r1, r2, z, cs)) (hl : Nat.ble (r1 + 1) ls.length = true) : Ev d M pc ls (vr x :: st) h = Ev d M (pc + len) (am_set ls r1 (vr x)) st h := Ev_go (by unfold am_step; rw [hc]; exact if_pos (Nat.le_of_ble_eq_true hl))
theorem op_iinc {n : Int} {x v : Int32} (hc : am_code M pc = some (.iinc i n, len, p, r1, r2, z, cs)) (hl : ls[r1]? = some (.inl x)) (hv : Int32.ofInt z = v) : Ev d M pc ls st h = Ev d M (pc + len) (am_set ls r1 (vi (x + v))) st h := Ev_go (by unfold am_step; rw [hc, ← hv]; simp only [am_do, hl])
theorem op_iadd {x y : Int32} (hc : am_code M pc = some (.iadd, len, p, r1, r2, z, cs)) : Ev d M pc ls (vi y :: vi x :: st) h = Ev d M (pc + len) ls (vi (x + y) :: st) h := Ev_go (by unfold am_step; rw [hc]; rfl)
theorem op_isub {x y : Int32} (hc : am_code M pc = some (.isub, len, p, r1, r2, z, cs)) : Ev d M pc ls (vi y :: vi x :: st) h = Ev d M (pc + len) ls (vi (x - y) :: st) h := Ev_go (by unfold am_step; rw [hc]; rfl)
theorem op_imul {x y : Int32} (hc : am_code M pc = some (.imul, len, p, r1, r2, z, cs)) : Ev d M pc ls (vi y :: vi x :: st) h = Ev d M (pc + len) ls (vi (x * y) :: st) h := Ev_go (by unfold am_step; rw [hc]; rfl)
theorem op_iand {x y : Int32} (hc : am_code M pc = some (.iand, len, p, r1, r2, z, cs)) : Ev d M pc ls (vi y :: vi x :: st) h = Ev d M (pc + len) ls (vi (x &&& y) :: st) h := Ev_go (by unfold am_step; rw [hc]; rfl)
theorem op_ior {x y : Int32} (hc : am_code M pc = some (.ior, len, p, r1, r2, z, cs)) : Ev d M pc ls (vi y :: vi x :: st) h = Ev d M (pc + len) ls (vi (x ||| y) :: st) h := Ev_go (by unfold am_step; rw [hc]; rfl)
theorem op_ixor {x y : Int32} (hc : am_code M pc = some (.ixor, len, p, r1, r2, z, cs)) : Ev d M pc ls (vi y :: vi x :: st) h = Ev d M (pc + len) ls (vi (x ^^^ y) :: st) h := Ev_go (by unfold am_step; rw [hc]; rfl)
theorem op_ishl {x y : Int32} (hc : am_code M pc = some (.ishl, len, p, r1, r2, z, cs)) : Ev d M pc ls (vi y :: vi x :: st) h = Ev d M (pc + len) ls (vi (x <<< (y &&& 31)) :: st) h := Ev_go (by unfold am_step; rw [hc]; rfl)
theorem op_ishr {x y : Int32} (hc : am_code M pc = some (.ishr, len, p, r1, r2, z, cs)) : Ev d M pc ls (vi y :: vi x :: st) h = Ev d M (pc + len) ls (vi (x >>> (y &&& 31)) :: st) h := Ev_go (by unfold am_step; rw [hc]; rfl)
theorem op_iushr {x y : Int32} (hc : am_code M pc = some (.iushr, len, p, r1, r2, z, cs)) : Ev d M pc ls (vi y :: vi x :: st) h = Ev d M (pc + len) ls (vi ((x.toUInt32 >>> (y.toUInt32 &&& Int32.toUInt32 31)).toInt32) :: st) h := Ev_go (by unfold am_step; rw [hc]; rfl)
theorem op_ladd {x y : Int64} (hc : am_code M pc = some (.ladd, len, p, r1, r2, z, cs)) : Ev d M pc ls (vl y :: vl x :: st) h = Ev d M (pc + len) ls (vl (x + y) :: st) h := Ev_go (by unfold am_step; rw [hc]; rfl)
theorem op_lsub {x y : Int64} (hc : am_code M pc = some (.lsub, len, p, r1, r2, z, cs)) : Ev d M pc ls (vl y :: vl x :: st) h = Ev d M (pc + len) ls (vl (x - y) :: st) h := Ev_go (by unfold am_step; rw [hc]; rfl)
theorem op_lmul {x y : Int64} (hc : am_code M pc = some (.lmul, len, p, r1, r2, z, cs)) : Ev d M pc ls (vl y :: vl x :: st) h = Ev d M (pc + len) ls (vl (x * y) :: st) h := Ev_go (by unfold am_step; rw [hc]; rfl)
theorem op_land {x y : Int64} (hc : am_code M pc = some (.land, len, p, r1, r2, z, cs)) : Ev d M pc ls (vl y :: vl x :: st) h = Ev d M (pc + len) ls (vl (x &&& y) :: st) h := Ev_go (by unfold am_step; rw [hc]; rfl)
theorem op_lor {x y : Int64} (hc : am_code M pc = some (.lor, len, p, r1, r2, z, cs)) : Ev d M pc ls (vl y :: vl x :: st) h = Ev d M (pc + len) ls (vl (x ||| y) :: st) h := Ev_go (by unfold am_step; rw [hc]; rfl)
theorem op_idiv {x y : Int32} (hc : am_code M pc = some (.idiv, len, p, r1, r2, z, cs)) : Ev d M pc ls (vi y :: vi x :: st) h = if y ≠ 0 then Ev d M (pc + len) ls (vi (x / y) :: st) h else none := by
  by_cases q : y = 0
  · rw [if_neg (fun n => n q)]; exact Ev_none (by unfold am_step; rw [hc]; exact if_pos q)
  · rw [if_pos q]; exact Ev_go (by unfold am_step; rw [hc]; exact if_neg q)
theorem op_irem {x y : Int32} (hc : am_code M pc = some (.irem, len, p, r1, r2, z, cs)) : Ev d M pc ls (vi y :: vi x :: st) h = if y ≠ 0 then Ev d M (pc + len) ls (vi (x - x / y * y) :: st) h else none := by
  by_cases q : y = 0
  · rw [if_neg (fun n => n q)]; exact Ev_none (by unfold am_step; rw [hc]; exact if_pos q)
  · rw [if_pos q]; exact Ev_go (by unfold am_step; rw [hc]; exact if_neg q)
theorem op_ldiv {x y : Int64} (hc : am_code M pc = some (.ldiv, len, p, r1, r2, z, cs)) : Ev d M pc ls (vl y :: vl x :: st) h = if y ≠ 0 then Ev d M (pc + len) ls (vl (x / y) :: st) h else none := by
  by_cases q : y = 0
  · rw [if_neg (fun n => n q)]; exact Ev_none (by unfold am_step; rw [hc]; exact if_pos q)
  · rw [if_pos q]; exact Ev_go (by unfold am_step; rw [hc]; exact if_neg q)
theorem op_lrem {x y : Int64} (hc : am_code M pc = some (.lrem, len, p, r1, r2, z, cs)) : Ev d M pc ls (vl y :: vl x :: st) h = if y ≠ 0 then Ev d M (pc + len) ls (vl (x - x / y * y) :: st) h else none := by
  by_cases q : y = 0
  · rw [if_neg (fun n => n q)]; exact Ev_none (by unfold am_step; rw [hc]; exact if_pos q)
  · rw [if_pos q]; exact Ev_go (by unfold am_step; rw [hc]; exact if_neg q)
theorem op_ineg {x : Int32} (hc : am_code M pc = some (.ineg, len, p, r1, r2, z, cs)) : Ev d M pc ls (vi x :: st) h = Ev d M (pc + len) ls (vi (-x) :: st) h := Ev_go (by unfold am_step; rw [hc]; rfl)
theorem op_lneg {x : Int64} (hc : am_code M pc = some (.lneg, len, p, r1, r2, z, cs)) : Ev d M pc ls (vl x :: st) h = Ev d M (pc + len) ls (vl (-x) :: st) h := Ev_go (by unfold am_step; rw [hc]; rfl)
theorem op_i2l {x : Int32} (hc : am_code M pc = some (.i2l, len, p, r1, r2, z, cs)) : Ev d M pc ls (vi x :: st) h = Ev d M (pc + len) ls (vl (x.toInt64) :: st) h := Ev_go (by unfold am_step; rw [hc]; rfl)
theorem op_l2i {x : Int64} (hc : am_code M pc = some (.l2i, len, p, r1, r2, z, cs)) : Ev d M pc ls (vl x :: st) h = Ev d M (pc + len) ls (vi (x.toInt32) :: st) h := Ev_go (by unfold am_step; rw [hc]; rfl)
theorem op_i2b {x : Int32} (hc : am_code M pc = some (.i2b, len, p, r1, r2, z, cs)) : Ev d M pc ls (vi x :: st) h = Ev d M (pc + len) ls (vi (x.toInt8.toInt32) :: st) h := Ev_go (by unfold am_step; rw [hc]; rfl)
theorem op_i2s {x : Int32} (hc : am_code M pc = some (.i2s, len, p, r1, r2, z, cs)) : Ev d M pc ls (vi x :: st) h = Ev d M (pc + len) ls (vi (x.toInt16.toInt32) :: st) h := Ev_go (by unfold am_step; rw [hc]; rfl)
theorem op_i2c {x : Int32} (hc : am_code M pc = some (.i2c, len, p, r1, r2, z, cs)) : Ev d M pc ls (vi x :: st) h = Ev d M (pc + len) ls (vi ((x.toUInt32 % 65536).toInt32) :: st) h := Ev_go (by unfold am_step; rw [hc]; rfl)
theorem op_lshl {x : Int64} {y : Int32} (hc : am_code M pc = some (.lshl, len, p, r1, r2, z, cs)) : Ev d M pc ls (vi y :: vl x :: st) h = Ev d M (pc + len) ls (vl (x <<< (y.toInt64 &&& 63)) :: st) h := Ev_go (by unfold am_step; rw [hc]; rfl)
theorem op_lshr {x : Int64} {y : Int32} (hc : am_code M pc = some (.lshr, len, p, r1, r2, z, cs)) : Ev d M pc ls (vi y :: vl x :: st) h = Ev d M (pc + len) ls (vl (x >>> (y.toInt64 &&& 63)) :: st) h := Ev_go (by unfold am_step; rw [hc]; rfl)
theorem op_lcmp {x y : Int64} (hc : am_code M pc = some (.lcmp, len, p, r1, r2, z, cs)) : Ev d M pc ls (vl y :: vl x :: st) h = Ev d M (pc + len) ls (vi (lg_cmp x y) :: st) h := Ev_go (by unfold am_step; rw [hc]; rfl)
theorem op_dup {v : am_V} (hc : am_code M pc = some (.dup, len, p, r1, r2, z, cs)) (hv : am_lg v = false) : Ev d M pc ls (v :: st) h = Ev d M (pc + len) ls (v :: v :: st) h := Ev_go (by unfold am_step; rw [hc]; exact if_neg (by rw [hv]; decide))
theorem op_pop {v : am_V} (hc : am_code M pc = some (.pop, len, p, r1, r2, z, cs)) (hv : am_lg v = false) : Ev d M pc ls (v :: st) h = Ev d M (pc + len) ls st h := Ev_go (by unfold am_step; rw [hc]; exact if_neg (by rw [hv]; decide))
theorem op_dup_x1 {v w : am_V} (hc : am_code M pc = some (.dup_x1, len, p, r1, r2, z, cs)) (hv : am_lg v = false) (hw : am_lg w = false) : Ev d M pc ls (v :: w :: st) h = Ev d M (pc + len) ls (v :: w :: v :: st) h := Ev_go (by unfold am_step; rw [hc]; exact if_neg (by rw [hv, hw]; decide))
theorem op_dup2 {v w : am_V} (hc : am_code M pc = some (.dup2, len, p, r1, r2, z, cs)) (hv : am_lg v = false) (hw : am_lg w = false) : Ev d M pc ls (v :: w :: st) h = Ev d M (pc + len) ls (v :: w :: v :: w :: st) h := Ev_go (by unfold am_step; rw [hc]; exact if_neg (by rw [hv, hw]; decide))
theorem op_goto {o : Int} (hc : am_code M pc = some (.goto o, len, p, r1, r2, z, cs)) : Ev d M pc ls st h = Ev d M r1 ls st h := Ev_go (by unfold am_step; rw [hc]; rfl)
theorem op_ifeq {o : Int} {x : Int32} (hc : am_code M pc = some (.ifCond .eq o, len, p, r1, r2, z, cs)) : Ev d M pc ls (vi x :: st) h = if x = 0 then Ev d M r1 ls st h else Ev d M (pc + len) ls st h := by
  split
  · rename_i q; exact Ev_go (by unfold am_step; rw [hc]; exact if_pos q)
  · rename_i q; exact Ev_go (by unfold am_step; rw [hc]; exact if_neg q)
theorem op_ifne {o : Int} {x : Int32} (hc : am_code M pc = some (.ifCond .ne o, len, p, r1, r2, z, cs)) : Ev d M pc ls (vi x :: st) h = if x ≠ 0 then Ev d M r1 ls st h else Ev d M (pc + len) ls st h := by
  split
  · rename_i q; exact Ev_go (by unfold am_step; rw [hc]; exact if_pos q)
  · rename_i q; exact Ev_go (by unfold am_step; rw [hc]; exact if_neg q)
theorem op_iflt {o : Int} {x : Int32} (hc : am_code M pc = some (.ifCond .lt o, len, p, r1, r2, z, cs)) : Ev d M pc ls (vi x :: st) h = if x < 0 then Ev d M r1 ls st h else Ev d M (pc + len) ls st h := by
  split
  · rename_i q; exact Ev_go (by unfold am_step; rw [hc]; exact if_pos q)
  · rename_i q; exact Ev_go (by unfold am_step; rw [hc]; exact if_neg q)
theorem op_ifge {o : Int} {x : Int32} (hc : am_code M pc = some (.ifCond .ge o, len, p, r1, r2, z, cs)) : Ev d M pc ls (vi x :: st) h = if 0 ≤ x then Ev d M r1 ls st h else Ev d M (pc + len) ls st h := by
  split
  · rename_i q; exact Ev_go (by unfold am_step; rw [hc]; exact if_pos q)
  · rename_i q; exact Ev_go (by unfold am_step; rw [hc]; exact if_neg q)
theorem op_ifgt {o : Int} {x : Int32} (hc : am_code M pc = some (.ifCond .gt o, len, p, r1, r2, z, cs)) : Ev d M pc ls (vi x :: st) h = if 0 < x then Ev d M r1 ls st h else Ev d M (pc + len) ls st h := by
  split
  · rename_i q; exact Ev_go (by unfold am_step; rw [hc]; exact if_pos q)
  · rename_i q; exact Ev_go (by unfold am_step; rw [hc]; exact if_neg q)
theorem op_ifle {o : Int} {x : Int32} (hc : am_code M pc = some (.ifCond .le o, len, p, r1, r2, z, cs)) : Ev d M pc ls (vi x :: st) h = if x ≤ 0 then Ev d M r1 ls st h else Ev d M (pc + len) ls st h := by
  split
  · rename_i q; exact Ev_go (by unfold am_step; rw [hc]; exact if_pos q)
  · rename_i q; exact Ev_go (by unfold am_step; rw [hc]; exact if_neg q)
theorem op_icmpeq {o : Int} {x y : Int32} (hc : am_code M pc = some (.if_icmp .eq o, len, p, r1, r2, z, cs)) : Ev d M pc ls (vi y :: vi x :: st) h = if x = y then Ev d M r1 ls st h else Ev d M (pc + len) ls st h := by
  split
  · rename_i q; exact Ev_go (by unfold am_step; rw [hc]; exact if_pos q)
  · rename_i q; exact Ev_go (by unfold am_step; rw [hc]; exact if_neg q)
theorem op_icmpne {o : Int} {x y : Int32} (hc : am_code M pc = some (.if_icmp .ne o, len, p, r1, r2, z, cs)) : Ev d M pc ls (vi y :: vi x :: st) h = if x ≠ y then Ev d M r1 ls st h else Ev d M (pc + len) ls st h := by
  split
  · rename_i q; exact Ev_go (by unfold am_step; rw [hc]; exact if_pos q)
  · rename_i q; exact Ev_go (by unfold am_step; rw [hc]; exact if_neg q)
theorem op_icmplt {o : Int} {x y : Int32} (hc : am_code M pc = some (.if_icmp .lt o, len, p, r1, r2, z, cs)) : Ev d M pc ls (vi y :: vi x :: st) h = if x < y then Ev d M r1 ls st h else Ev d M (pc + len) ls st h := by
  split
  · rename_i q; exact Ev_go (by unfold am_step; rw [hc]; exact if_pos q)
  · rename_i q; exact Ev_go (by unfold am_step; rw [hc]; exact if_neg q)
theorem op_icmpge {o : Int} {x y : Int32} (hc : am_code M pc = some (.if_icmp .ge o, len, p, r1, r2, z, cs)) : Ev d M pc ls (vi y :: vi x :: st) h = if y ≤ x then Ev d M r1 ls st h else Ev d M (pc + len) ls st h := by
  split
  · rename_i q; exact Ev_go (by unfold am_step; rw [hc]; exact if_pos q)
  · rename_i q; exact Ev_go (by unfold am_step; rw [hc]; exact if_neg q)
theorem op_icmpgt {o : Int} {x y : Int32} (hc : am_code M pc = some (.if_icmp .gt o, len, p, r1, r2, z, cs)) : Ev d M pc ls (vi y :: vi x :: st) h = if y < x then Ev d M r1 ls st h else Ev d M (pc + len) ls st h := by
  split
  · rename_i q; exact Ev_go (by unfold am_step; rw [hc]; exact if_pos q)
  · rename_i q; exact Ev_go (by unfold am_step; rw [hc]; exact if_neg q)
theorem op_icmple {o : Int} {x y : Int32} (hc : am_code M pc = some (.if_icmp .le o, len, p, r1, r2, z, cs)) : Ev d M pc ls (vi y :: vi x :: st) h = if x ≤ y then Ev d M r1 ls st h else Ev d M (pc + len) ls st h := by
  split
  · rename_i q; exact Ev_go (by unfold am_step; rw [hc]; exact if_pos q)
  · rename_i q; exact Ev_go (by unfold am_step; rw [hc]; exact if_neg q)
theorem op_ifnull {o : Int} {x : Option Nat} (hc : am_code M pc = some (.ifnull o, len, p, r1, r2, z, cs)) : Ev d M pc ls (vr x :: st) h = if x = none then Ev d M r1 ls st h else Ev d M (pc + len) ls st h := by
  split
  · rename_i q; exact Ev_go (by unfold am_step; rw [hc]; exact if_pos q)
  · rename_i q; exact Ev_go (by unfold am_step; rw [hc]; exact if_neg q)
theorem op_ifnonnull {o : Int} {x : Option Nat} (hc : am_code M pc = some (.ifnonnull o, len, p, r1, r2, z, cs)) : Ev d M pc ls (vr x :: st) h = if x ≠ none then Ev d M r1 ls st h else Ev d M (pc + len) ls st h := by
  split
  · rename_i q; exact Ev_go (by unfold am_step; rw [hc]; exact if_pos q)
  · rename_i q; exact Ev_go (by unfold am_step; rw [hc]; exact if_neg q)
noncomputable def am_swE (d M : Nat) (ls st : List am_V) (h : am_H) (x : Int32) (df : Nat) : List (Int32 × Nat) → Option (Option am_V × am_H)
  | [] => Ev d M df ls st h
  | (c, t) :: cs => if x = c then Ev d M t ls st h else am_swE d M ls st h x df cs
theorem am_swE_eq {x : Int32} {df : Nat} : ∀ cs : List (Int × Nat), Ev d M (am_sw x cs df) ls st h = am_swE d M ls st h x df (cs.map fun q => (Int32.ofInt q.1, q.2))
  | [] => rfl
  | (c, t) :: cs => by
    rw [am_sw, List.map_cons, am_swE]
    split
    · rfl
    · exact am_swE_eq cs
theorem op_tableswitch {dd lo hi : Int} {os : Array Int} {x : Int32} {cv : List (Int32 × Nat)} (hc : am_code M pc = some (.tableswitch dd lo hi os, len, p, r1, r2, z, cs)) (hv : (cs.map fun q => (Int32.ofInt q.1, q.2)) = cv) : Ev d M pc ls (vi x :: st) h = am_swE d M ls st h x r1 cv := by
  rw [← hv, ← am_swE_eq]
  exact Ev_go (by unfold am_step; rw [hc]; rfl)
theorem op_lookupswitch {dd : Int} {ps : Array (Int × Int)} {x : Int32} {cv : List (Int32 × Nat)} (hc : am_code M pc = some (.lookupswitch dd ps, len, p, r1, r2, z, cs)) (hv : (cs.map fun q => (Int32.ofInt q.1, q.2)) = cv) : Ev d M pc ls (vi x :: st) h = am_swE d M ls st h x r1 cv := by
  rw [← hv, ← am_swE_eq]
  exact Ev_go (by unfold am_step; rw [hc]; rfl)
theorem op_getstatic (hc : am_code M pc = some (.getstatic i, len, p, 1, r2, z, cs)) : Ev d M pc ls st h = Ev d M (pc + len) ls (vi 1 :: st) h := Ev_go (by unfold am_step; rw [hc]; rfl)
theorem op_getI  {r : Option Nat} (hc : am_code M pc = some (.getfield i, len, p, r1, r2, z, cs)) (h1 : r1 ≠ 902) (hf : am_ft r1 r2 = 0 ∨ am_ft r1 r2 = 3) : Ev d M pc ls (vr r :: st) h = r.bind fun n => if hkd h n = r1 then Ev d M (pc + len) ls (vi (hI h n r2) :: st) h else none := by
  cases r with
  | none => exact Ev_none (by unfold am_step; rw [hc]; rfl)
  | some n =>
    show _ = if _ then _ else none
    split
    · rename_i q; exact Ev_go (by unfold am_step; rw [hc]; simp only [am_do]; rw [if_neg h1, if_pos q, if_pos hf])
    · rename_i q; exact Ev_none (by unfold am_step; rw [hc]; simp only [am_do]; rw [if_neg h1, if_neg q, if_pos hf])
