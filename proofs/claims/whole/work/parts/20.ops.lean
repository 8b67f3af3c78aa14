/-! one instruction as an equation of runs -/
theorem op_ite {α : Type} {c : Prop} [Decidable c] {a a' b : α} (h : a = a') : (if c then a else b) = if c then a' else b := by rw [h]
theorem op_bind {α β : Type} {r : Option α} {f g : α → Option β} (h : ∀ n, f n = g n) : r.bind f = r.bind g := by rw [funext h]
section OPS
variable {d M pc pc' len p r1 r2 : Nat} {z : Int} {cs : List (Int × Nat)} {ls ls' st : List am_V} {h : am_H} {i : Nat}
theorem op_null (hc : am_code M pc = some (.aconst_null, len, p, r1, r2, z, cs)) (hp : pc + len = pc') : Ev d M pc ls st h = Ev d M pc' ls (vr none :: st) h := by subst hp; exact Ev_go (by unfold am_step; rw [hc]; rfl)
theorem op_iconst {n : Int} {v : Int32} (hc : am_code M pc = some (.iconst n, len, p, r1, r2, z, cs)) (hp : pc + len = pc') (hv : Int32.ofInt z = v) : Ev d M pc ls st h = Ev d M pc' ls (vi v :: st) h := by subst hp; exact Ev_go (by unfold am_step; rw [hc, ← hv]; rfl)
theorem op_bipush {n : Int} {v : Int32} (hc : am_code M pc = some (.bipush n, len, p, r1, r2, z, cs)) (hp : pc + len = pc') (hv : Int32.ofInt z = v) : Ev d M pc ls st h = Ev d M pc' ls (vi v :: st) h := by subst hp; exact Ev_go (by unfold am_step; rw [hc, ← hv]; rfl)
theorem op_sipush {n : Int} {v : Int32} (hc : am_code M pc = some (.sipush n, len, p, r1, r2, z, cs)) (hp : pc + len = pc') (hv : Int32.ofInt z = v) : Ev d M pc ls st h = Ev d M pc' ls (vi v :: st) h := by subst hp; exact Ev_go (by unfold am_step; rw [hc, ← hv]; rfl)
theorem op_ldc {n : Nat} {v : Int32} (hc : am_code M pc = some (.ldc n, len, p, 0, r2, z, cs)) (hp : pc + len = pc') (hv : Int32.ofInt z = v) : Ev d M pc ls st h = Ev d M pc' ls (vi v :: st) h := by subst hp; exact Ev_go (by unfold am_step; rw [hc, ← hv]; rfl)
theorem op_ldcS {n : Nat} (hc : am_code M pc = some (.ldc n, len, p, 1, r2, z, cs)) (hp : pc + len = pc') : Ev d M pc ls st h = Ev d M pc' ls (vr (some (1000000 + 2 * r2)) :: st) h := by subst hp; exact Ev_go (by unfold am_step; rw [hc]; rfl)
theorem op_ldc_w {n : Nat} {v : Int32} (hc : am_code M pc = some (.ldc_w n, len, p, 0, r2, z, cs)) (hp : pc + len = pc') (hv : Int32.ofInt z = v) : Ev d M pc ls st h = Ev d M pc' ls (vi v :: st) h := by subst hp; exact Ev_go (by unfold am_step; rw [hc, ← hv]; rfl)
theorem op_lconst {n : Fin 2} {v : Int64} (hc : am_code M pc = some (.lconst n, len, p, r1, r2, z, cs)) (hp : pc + len = pc') (hv : Int64.ofInt z = v) : Ev d M pc ls st h = Ev d M pc' ls (vl v :: st) h := by subst hp; exact Ev_go (by unfold am_step; rw [hc, ← hv]; rfl)
theorem op_ldc2_w {n : Nat} {v : Int64} (hc : am_code M pc = some (.ldc2_w n, len, p, r1, r2, z, cs)) (hp : pc + len = pc') (hv : Int64.ofInt z = v) : Ev d M pc ls st h = Ev d M pc' ls (vl v :: st) h := by subst hp; exact Ev_go (by unfold am_step; rw [hc, ← hv]; rfl)
theorem op_iload {x : Int32} (hc : am_code M pc = some (.iload i, len, p, r1, r2, z, cs)) (hp : pc + len = pc') (hl : ls[r1]? = some (.inl x)) : Ev d M pc ls st h = Ev d M pc' ls (vi x :: st) h := by subst hp; exact Ev_go (by unfold am_step; rw [hc]; simp only [am_do, hl])
theorem op_iload_n {k : Fin 4} {x : Int32} (hc : am_code M pc = some (.iload_n k, len, p, r1, r2, z, cs)) (hp : pc + len = pc') (hl : ls[r1]? = some (.inl x)) : Ev d M pc ls st h = Ev d M pc' ls (vi x :: st) h := by subst hp; exact Ev_go (by unfold am_step; rw [hc]; simp only [am_do, hl])
theorem op_lload {x : Int64} (hc : am_code M pc = some (.lload i, len, p, r1, r2, z, cs)) (hp : pc + len = pc') (hl : ls[r1]? = some (.inr (.inl x))) : Ev d M pc ls st h = Ev d M pc' ls (vl x :: st) h := by subst hp; exact Ev_go (by unfold am_step; rw [hc]; simp only [am_do, hl])
theorem op_lload_n {k : Fin 4} {x : Int64} (hc : am_code M pc = some (.lload_n k, len, p, r1, r2, z, cs)) (hp : pc + len = pc') (hl : ls[r1]? = some (.inr (.inl x))) : Ev d M pc ls st h = Ev d M pc' ls (vl x :: st) h := by subst hp; exact Ev_go (by unfold am_step; rw [hc]; simp only [am_do, hl])
theorem op_aload {x : Option Nat} (hc : am_code M pc = some (.aload i, len, p, r1, r2, z, cs)) (hp : pc + len = pc') (hl : ls[r1]? = some (.inr (.inr (.inl x)))) : Ev d M pc ls st h = Ev d M pc' ls (vr x :: st) h := by subst hp; exact Ev_go (by unfold am_step; rw [hc]; simp only [am_do, hl])
theorem op_aload_n {k : Fin 4} {x : Option Nat} (hc : am_code M pc = some (.aload_n k, len, p, r1, r2, z, cs)) (hp : pc + len = pc') (hl : ls[r1]? = some (.inr (.inr (.inl x)))) : Ev d M pc ls st h = Ev d M pc' ls (vr x :: st) h := by subst hp; exact Ev_go (by unfold am_step; rw [hc]; simp only [am_do, hl])
theorem op_istore {x : Int32} (hc : am_code M pc = some (.istore i, len, p, r1, r2, z, cs)) (hp : pc + len = pc') (hl : Nat.ble (r1 + 1) ls.length = true) (hs : am_set ls r1 (vi x) = ls') : Ev d M pc ls (vi x :: st) h = Ev d M pc' ls' st h := by subst hp; subst hs; exact Ev_go (by unfold am_step; rw [hc]; exact if_pos (Nat.le_of_ble_eq_true hl))
theorem op_istore_n {k : Fin 4} {x : Int32} (hc : am_code M pc = some (.istore_n k, len, p, r1, r2, z, cs)) (hp : pc + len = pc') (hl : Nat.ble (r1 + 1) ls.length = true) (hs : am_set ls r1 (vi x) = ls') : Ev d M pc ls (vi x :: st) h = Ev d M pc' ls' st h := by subst hp; subst hs; exact Ev_go (by unfold am_step; rw [hc]; exact if_pos (Nat.le_of_ble_eq_true hl))
theorem op_lstore {x : Int64} (hc : am_code M pc = some (.lstore i, len, p, r1, r2, z, cs)) (hp : pc + len = pc') (hl : Nat.ble (r1 + 1 + 1) ls.length = true) (hs : am_set2 ls r1 (vl x) = ls') : Ev d M pc ls (vl x :: st) h = Ev d M pc' ls' st h := by subst hp; subst hs; exact Ev_go (by unfold am_step; rw [hc]; exact if_pos (Nat.le_of_ble_eq_true hl))
theorem op_lstore_n {k : Fin 4} {x : Int64} (hc : am_code M pc = some (.lstore_n k, len, p, r1, r2, z, cs)) (hp : pc + len = pc') (hl : Nat.ble (r1 + 1 + 1) ls.length = true) (hs : am_set2 ls r1 (vl x) = ls') : Ev d M pc ls (vl x :: st) h = Ev d M pc' ls' st h := by subst hp; subst hs; exact Ev_go (by unfold am_step; rw [hc]; exact if_pos (Nat.le_of_ble_eq_true hl))
theorem op_astore {x : Option Nat} (hc : am_code M pc = some (.astore i, len, p, r1, r2, z, cs)) (hp : pc + len = pc') (hl : Nat.ble (r1 + 1) ls.length = true) (hs : am_set ls r1 (vr x) = ls') : Ev d M pc ls (vr x :: st) h = Ev d M pc' ls' st h := by subst hp; subst hs; exact Ev_go (by unfold am_step; rw [hc]; exact if_pos (Nat.le_of_ble_eq_true hl))
theorem op_astore_n {k : Fin 4} {x : Option Nat} (hc : am_code M pc = some (.astore_n k, len, p, r1, r2, z, cs)) (hp : pc + len = pc') (hl : Nat.ble (r1 + 1) ls.length = true) (hs : am_set ls r1 (vr x) = ls') : Ev d M pc ls (vr x :: st) h = Ev d M pc' ls' st h := by subst hp; subst hs; exact Ev_go (by unfold am_step; rw [hc]; exact if_pos (Nat.le_of_ble_eq_true hl))
theorem op_iinc {n : Int} {x v : Int32} (hc : am_code M pc = some (.iinc i n, len, p, r1, r2, z, cs)) (hp : pc + len = pc') (hl : ls[r1]? = some (.inl x)) (hv : Int32.ofInt z = v) (hs : am_set ls r1 (vi (x + v)) = ls') : Ev d M pc ls st h = Ev d M pc' ls' st h := by subst hp; subst hs; exact Ev_go (by unfold am_step; rw [hc, ← hv]; simp only [am_do, hl])
theorem op_iadd {x y : Int32} (hc : am_code M pc = some (.iadd, len, p, r1, r2, z, cs)) (hp : pc + len = pc') : Ev d M pc ls (vi y :: vi x :: st) h = Ev d M pc' ls (vi (x + y) :: st) h := by subst hp; exact Ev_go (by unfold am_step; rw [hc]; rfl)
theorem op_isub {x y : Int32} (hc : am_code M pc = some (.isub, len, p, r1, r2, z, cs)) (hp : pc + len = pc') : Ev d M pc ls (vi y :: vi x :: st) h = Ev d M pc' ls (vi (x - y) :: st) h := by subst hp; exact Ev_go (by unfold am_step; rw [hc]; rfl)
theorem op_imul {x y : Int32} (hc : am_code M pc = some (.imul, len, p, r1, r2, z, cs)) (hp : pc + len = pc') : Ev d M pc ls (vi y :: vi x :: st) h = Ev d M pc' ls (vi (x * y) :: st) h := by subst hp; exact Ev_go (by unfold am_step; rw [hc]; rfl)
theorem op_iand {x y : Int32} (hc : am_code M pc = some (.iand, len, p, r1, r2, z, cs)) (hp : pc + len = pc') : Ev d M pc ls (vi y :: vi x :: st) h = Ev d M pc' ls (vi (x &&& y) :: st) h := by subst hp; exact Ev_go (by unfold am_step; rw [hc]; rfl)
theorem op_ior {x y : Int32} (hc : am_code M pc = some (.ior, len, p, r1, r2, z, cs)) (hp : pc + len = pc') : Ev d M pc ls (vi y :: vi x :: st) h = Ev d M pc' ls (vi (x ||| y) :: st) h := by subst hp; exact Ev_go (by unfold am_step; rw [hc]; rfl)
theorem op_ixor {x y : Int32} (hc : am_code M pc = some (.ixor, len, p, r1, r2, z, cs)) (hp : pc + len = pc') : Ev d M pc ls (vi y :: vi x :: st) h = Ev d M pc' ls (vi (x ^^^ y) :: st) h := by subst hp; exact Ev_go (by unfold am_step; rw [hc]; rfl)
theorem op_ishl {x y : Int32} (hc : am_code M pc = some (.ishl, len, p, r1, r2, z, cs)) (hp : pc + len = pc') : Ev d M pc ls (vi y :: vi x :: st) h = Ev d M pc' ls (vi (x <<< (y &&& 31)) :: st) h := by subst hp; exact Ev_go (by unfold am_step; rw [hc]; rfl)
theorem op_ishr {x y : Int32} (hc : am_code M pc = some (.ishr, len, p, r1, r2, z, cs)) (hp : pc + len = pc') : Ev d M pc ls (vi y :: vi x :: st) h = Ev d M pc' ls (vi (x >>> (y &&& 31)) :: st) h := by subst hp; exact Ev_go (by unfold am_step; rw [hc]; rfl)
theorem op_iushr {x y : Int32} (hc : am_code M pc = some (.iushr, len, p, r1, r2, z, cs)) (hp : pc + len = pc') : Ev d M pc ls (vi y :: vi x :: st) h = Ev d M pc' ls (vi ((x.toUInt32 >>> (y.toUInt32 &&& Int32.toUInt32 31)).toInt32) :: st) h := by subst hp; exact Ev_go (by unfold am_step; rw [hc]; rfl)
theorem op_ladd {x y : Int64} (hc : am_code M pc = some (.ladd, len, p, r1, r2, z, cs)) (hp : pc + len = pc') : Ev d M pc ls (vl y :: vl x :: st) h = Ev d M pc' ls (vl (x + y) :: st) h := by subst hp; exact Ev_go (by unfold am_step; rw [hc]; rfl)
theorem op_lsub {x y : Int64} (hc : am_code M pc = some (.lsub, len, p, r1, r2, z, cs)) (hp : pc + len = pc') : Ev d M pc ls (vl y :: vl x :: st) h = Ev d M pc' ls (vl (x - y) :: st) h := by subst hp; exact Ev_go (by unfold am_step; rw [hc]; rfl)
theorem op_lmul {x y : Int64} (hc : am_code M pc = some (.lmul, len, p, r1, r2, z, cs)) (hp : pc + len = pc') : Ev d M pc ls (vl y :: vl x :: st) h = Ev d M pc' ls (vl (x * y) :: st) h := by subst hp; exact Ev_go (by unfold am_step; rw [hc]; rfl)
theorem op_land {x y : Int64} (hc : am_code M pc = some (.land, len, p, r1, r2, z, cs)) (hp : pc + len = pc') : Ev d M pc ls (vl y :: vl x :: st) h = Ev d M pc' ls (vl (x &&& y) :: st) h := by subst hp; exact Ev_go (by unfold am_step; rw [hc]; rfl)
theorem op_lor {x y : Int64} (hc : am_code M pc = some (.lor, len, p, r1, r2, z, cs)) (hp : pc + len = pc') : Ev d M pc ls (vl y :: vl x :: st) h = Ev d M pc' ls (vl (x ||| y) :: st) h := by subst hp; exact Ev_go (by unfold am_step; rw [hc]; rfl)
theorem op_idiv {x y : Int32} (hc : am_code M pc = some (.idiv, len, p, r1, r2, z, cs)) (hp : pc + len = pc') : Ev d M pc ls (vi y :: vi x :: st) h = if y ≠ 0 then Ev d M pc' ls (vi (x / y) :: st) h else none := by
  subst hp
  by_cases q : y = 0
  · rw [if_neg (fun n => n q)]; exact Ev_none (by unfold am_step; rw [hc]; exact if_pos q)
  · rw [if_pos q]; exact Ev_go (by unfold am_step; rw [hc]; exact if_neg q)
theorem op_irem {x y : Int32} (hc : am_code M pc = some (.irem, len, p, r1, r2, z, cs)) (hp : pc + len = pc') : Ev d M pc ls (vi y :: vi x :: st) h = if y ≠ 0 then Ev d M pc' ls (vi (x - x / y * y) :: st) h else none := by
  subst hp
  by_cases q : y = 0
  · rw [if_neg (fun n => n q)]; exact Ev_none (by unfold am_step; rw [hc]; exact if_pos q)
  · rw [if_pos q]; exact Ev_go (by unfold am_step; rw [hc]; exact if_neg q)
theorem op_ldiv {x y : Int64} (hc : am_code M pc = some (.ldiv, len, p, r1, r2, z, cs)) (hp : pc + len = pc') : Ev d M pc ls (vl y :: vl x :: st) h = if y ≠ 0 then Ev d M pc' ls (vl (x / y) :: st) h else none := by
  subst hp
  by_cases q : y = 0
  · rw [if_neg (fun n => n q)]; exact Ev_none (by unfold am_step; rw [hc]; exact if_pos q)
  · rw [if_pos q]; exact Ev_go (by unfold am_step; rw [hc]; exact if_neg q)
theorem op_lrem {x y : Int64} (hc : am_code M pc = some (.lrem, len, p, r1, r2, z, cs)) (hp : pc + len = pc') : Ev d M pc ls (vl y :: vl x :: st) h = if y ≠ 0 then Ev d M pc' ls (vl (x - x / y * y) :: st) h else none := by
  subst hp
  by_cases q : y = 0
  · rw [if_neg (fun n => n q)]; exact Ev_none (by unfold am_step; rw [hc]; exact if_pos q)
  · rw [if_pos q]; exact Ev_go (by unfold am_step; rw [hc]; exact if_neg q)
theorem op_ineg {x : Int32} (hc : am_code M pc = some (.ineg, len, p, r1, r2, z, cs)) (hp : pc + len = pc') : Ev d M pc ls (vi x :: st) h = Ev d M pc' ls (vi (-x) :: st) h := by subst hp; exact Ev_go (by unfold am_step; rw [hc]; rfl)
theorem op_lneg {x : Int64} (hc : am_code M pc = some (.lneg, len, p, r1, r2, z, cs)) (hp : pc + len = pc') : Ev d M pc ls (vl x :: st) h = Ev d M pc' ls (vl (-x) :: st) h := by subst hp; exact Ev_go (by unfold am_step; rw [hc]; rfl)
theorem op_i2l {x : Int32} (hc : am_code M pc = some (.i2l, len, p, r1, r2, z, cs)) (hp : pc + len = pc') : Ev d M pc ls (vi x :: st) h = Ev d M pc' ls (vl (x.toInt64) :: st) h := by subst hp; exact Ev_go (by unfold am_step; rw [hc]; rfl)
theorem op_l2i {x : Int64} (hc : am_code M pc = some (.l2i, len, p, r1, r2, z, cs)) (hp : pc + len = pc') : Ev d M pc ls (vl x :: st) h = Ev d M pc' ls (vi (x.toInt32) :: st) h := by subst hp; exact Ev_go (by unfold am_step; rw [hc]; rfl)
theorem op_i2b {x : Int32} (hc : am_code M pc = some (.i2b, len, p, r1, r2, z, cs)) (hp : pc + len = pc') : Ev d M pc ls (vi x :: st) h = Ev d M pc' ls (vi (x.toInt8.toInt32) :: st) h := by subst hp; exact Ev_go (by unfold am_step; rw [hc]; rfl)
theorem op_i2s {x : Int32} (hc : am_code M pc = some (.i2s, len, p, r1, r2, z, cs)) (hp : pc + len = pc') : Ev d M pc ls (vi x :: st) h = Ev d M pc' ls (vi (x.toInt16.toInt32) :: st) h := by subst hp; exact Ev_go (by unfold am_step; rw [hc]; rfl)
theorem op_i2c {x : Int32} (hc : am_code M pc = some (.i2c, len, p, r1, r2, z, cs)) (hp : pc + len = pc') : Ev d M pc ls (vi x :: st) h = Ev d M pc' ls (vi ((x.toUInt32 % 65536).toInt32) :: st) h := by subst hp; exact Ev_go (by unfold am_step; rw [hc]; rfl)
theorem op_lshl {x : Int64} {y : Int32} (hc : am_code M pc = some (.lshl, len, p, r1, r2, z, cs)) (hp : pc + len = pc') : Ev d M pc ls (vi y :: vl x :: st) h = Ev d M pc' ls (vl (x <<< (y.toInt64 &&& 63)) :: st) h := by subst hp; exact Ev_go (by unfold am_step; rw [hc]; rfl)
theorem op_lshr {x : Int64} {y : Int32} (hc : am_code M pc = some (.lshr, len, p, r1, r2, z, cs)) (hp : pc + len = pc') : Ev d M pc ls (vi y :: vl x :: st) h = Ev d M pc' ls (vl (x >>> (y.toInt64 &&& 63)) :: st) h := by subst hp; exact Ev_go (by unfold am_step; rw [hc]; rfl)
theorem op_lcmp {x y : Int64} (hc : am_code M pc = some (.lcmp, len, p, r1, r2, z, cs)) (hp : pc + len = pc') : Ev d M pc ls (vl y :: vl x :: st) h = Ev d M pc' ls (vi (lg_cmp x y) :: st) h := by subst hp; exact Ev_go (by unfold am_step; rw [hc]; rfl)
theorem op_dup {v : am_V} (hc : am_code M pc = some (.dup, len, p, r1, r2, z, cs)) (hp : pc + len = pc') (hv : am_lg v = false) : Ev d M pc ls (v :: st) h = Ev d M pc' ls (v :: v :: st) h := by subst hp; exact Ev_go (by unfold am_step; rw [hc]; exact if_neg (by rw [hv]; decide))
theorem op_pop {v : am_V} (hc : am_code M pc = some (.pop, len, p, r1, r2, z, cs)) (hp : pc + len = pc') (hv : am_lg v = false) : Ev d M pc ls (v :: st) h = Ev d M pc' ls st h := by subst hp; exact Ev_go (by unfold am_step; rw [hc]; exact if_neg (by rw [hv]; decide))
theorem op_dup_x1 {v w : am_V} (hc : am_code M pc = some (.dup_x1, len, p, r1, r2, z, cs)) (hp : pc + len = pc') (hv : am_lg v = false) (hw : am_lg w = false) : Ev d M pc ls (v :: w :: st) h = Ev d M pc' ls (v :: w :: v :: st) h := by subst hp; exact Ev_go (by unfold am_step; rw [hc]; exact if_neg (by rw [hv, hw]; decide))
theorem op_dup2 {v w : am_V} (hc : am_code M pc = some (.dup2, len, p, r1, r2, z, cs)) (hp : pc + len = pc') (hv : am_lg v = false) (hw : am_lg w = false) : Ev d M pc ls (v :: w :: st) h = Ev d M pc' ls (v :: w :: v :: w :: st) h := by subst hp; exact Ev_go (by unfold am_step; rw [hc]; exact if_neg (by rw [hv, hw]; decide))
theorem op_goto {o : Int} (hc : am_code M pc = some (.goto o, len, p, r1, r2, z, cs)) : Ev d M pc ls st h = Ev d M r1 ls st h := Ev_go (by unfold am_step; rw [hc]; rfl)
theorem op_ifeq {o : Int} {x : Int32} (hc : am_code M pc = some (.ifCond .eq o, len, p, r1, r2, z, cs)) (hp : pc + len = pc') : Ev d M pc ls (vi x :: st) h = if x = 0 then Ev d M r1 ls st h else Ev d M pc' ls st h := by
  subst hp
  split
  · rename_i q; exact Ev_go (by unfold am_step; rw [hc]; exact if_pos q)
  · rename_i q; exact Ev_go (by unfold am_step; rw [hc]; exact if_neg q)
theorem op_ifne {o : Int} {x : Int32} (hc : am_code M pc = some (.ifCond .ne o, len, p, r1, r2, z, cs)) (hp : pc + len = pc') : Ev d M pc ls (vi x :: st) h = if x ≠ 0 then Ev d M r1 ls st h else Ev d M pc' ls st h := by
  subst hp
  split
  · rename_i q; exact Ev_go (by unfold am_step; rw [hc]; exact if_pos q)
  · rename_i q; exact Ev_go (by unfold am_step; rw [hc]; exact if_neg q)
theorem op_iflt {o : Int} {x : Int32} (hc : am_code M pc = some (.ifCond .lt o, len, p, r1, r2, z, cs)) (hp : pc + len = pc') : Ev d M pc ls (vi x :: st) h = if x < 0 then Ev d M r1 ls st h else Ev d M pc' ls st h := by
  subst hp
  split
  · rename_i q; exact Ev_go (by unfold am_step; rw [hc]; exact if_pos q)
  · rename_i q; exact Ev_go (by unfold am_step; rw [hc]; exact if_neg q)
theorem op_ifge {o : Int} {x : Int32} (hc : am_code M pc = some (.ifCond .ge o, len, p, r1, r2, z, cs)) (hp : pc + len = pc') : Ev d M pc ls (vi x :: st) h = if 0 ≤ x then Ev d M r1 ls st h else Ev d M pc' ls st h := by
  subst hp
  split
  · rename_i q; exact Ev_go (by unfold am_step; rw [hc]; exact if_pos q)
  · rename_i q; exact Ev_go (by unfold am_step; rw [hc]; exact if_neg q)
theorem op_ifgt {o : Int} {x : Int32} (hc : am_code M pc = some (.ifCond .gt o, len, p, r1, r2, z, cs)) (hp : pc + len = pc') : Ev d M pc ls (vi x :: st) h = if 0 < x then Ev d M r1 ls st h else Ev d M pc' ls st h := by
  subst hp
  split
  · rename_i q; exact Ev_go (by unfold am_step; rw [hc]; exact if_pos q)
  · rename_i q; exact Ev_go (by unfold am_step; rw [hc]; exact if_neg q)
theorem op_ifle {o : Int} {x : Int32} (hc : am_code M pc = some (.ifCond .le o, len, p, r1, r2, z, cs)) (hp : pc + len = pc') : Ev d M pc ls (vi x :: st) h = if x ≤ 0 then Ev d M r1 ls st h else Ev d M pc' ls st h := by
  subst hp
  split
  · rename_i q; exact Ev_go (by unfold am_step; rw [hc]; exact if_pos q)
  · rename_i q; exact Ev_go (by unfold am_step; rw [hc]; exact if_neg q)
theorem op_icmpeq {o : Int} {x y : Int32} (hc : am_code M pc = some (.if_icmp .eq o, len, p, r1, r2, z, cs)) (hp : pc + len = pc') : Ev d M pc ls (vi y :: vi x :: st) h = if x = y then Ev d M r1 ls st h else Ev d M pc' ls st h := by
  subst hp
  split
  · rename_i q; exact Ev_go (by unfold am_step; rw [hc]; exact if_pos q)
  · rename_i q; exact Ev_go (by unfold am_step; rw [hc]; exact if_neg q)
theorem op_icmpne {o : Int} {x y : Int32} (hc : am_code M pc = some (.if_icmp .ne o, len, p, r1, r2, z, cs)) (hp : pc + len = pc') : Ev d M pc ls (vi y :: vi x :: st) h = if x ≠ y then Ev d M r1 ls st h else Ev d M pc' ls st h := by
  subst hp
  split
  · rename_i q; exact Ev_go (by unfold am_step; rw [hc]; exact if_pos q)
  · rename_i q; exact Ev_go (by unfold am_step; rw [hc]; exact if_neg q)
theorem op_icmplt {o : Int} {x y : Int32} (hc : am_code M pc = some (.if_icmp .lt o, len, p, r1, r2, z, cs)) (hp : pc + len = pc') : Ev d M pc ls (vi y :: vi x :: st) h = if x < y then Ev d M r1 ls st h else Ev d M pc' ls st h := by
  subst hp
  split
  · rename_i q; exact Ev_go (by unfold am_step; rw [hc]; exact if_pos q)
  · rename_i q; exact Ev_go (by unfold am_step; rw [hc]; exact if_neg q)
theorem op_icmpge {o : Int} {x y : Int32} (hc : am_code M pc = some (.if_icmp .ge o, len, p, r1, r2, z, cs)) (hp : pc + len = pc') : Ev d M pc ls (vi y :: vi x :: st) h = if y ≤ x then Ev d M r1 ls st h else Ev d M pc' ls st h := by
  subst hp
  split
  · rename_i q; exact Ev_go (by unfold am_step; rw [hc]; exact if_pos q)
  · rename_i q; exact Ev_go (by unfold am_step; rw [hc]; exact if_neg q)
theorem op_icmpgt {o : Int} {x y : Int32} (hc : am_code M pc = some (.if_icmp .gt o, len, p, r1, r2, z, cs)) (hp : pc + len = pc') : Ev d M pc ls (vi y :: vi x :: st) h = if y < x then Ev d M r1 ls st h else Ev d M pc' ls st h := by
  subst hp
  split
  · rename_i q; exact Ev_go (by unfold am_step; rw [hc]; exact if_pos q)
  · rename_i q; exact Ev_go (by unfold am_step; rw [hc]; exact if_neg q)
theorem op_icmple {o : Int} {x y : Int32} (hc : am_code M pc = some (.if_icmp .le o, len, p, r1, r2, z, cs)) (hp : pc + len = pc') : Ev d M pc ls (vi y :: vi x :: st) h = if x ≤ y then Ev d M r1 ls st h else Ev d M pc' ls st h := by
  subst hp
  split
  · rename_i q; exact Ev_go (by unfold am_step; rw [hc]; exact if_pos q)
  · rename_i q; exact Ev_go (by unfold am_step; rw [hc]; exact if_neg q)
theorem op_ifnull {o : Int} {x : Option Nat} (hc : am_code M pc = some (.ifnull o, len, p, r1, r2, z, cs)) (hp : pc + len = pc') : Ev d M pc ls (vr x :: st) h = if x = none then Ev d M r1 ls st h else Ev d M pc' ls st h := by
  subst hp
  split
  · rename_i q; exact Ev_go (by unfold am_step; rw [hc]; exact if_pos q)
  · rename_i q; exact Ev_go (by unfold am_step; rw [hc]; exact if_neg q)
theorem op_ifnonnull {o : Int} {x : Option Nat} (hc : am_code M pc = some (.ifnonnull o, len, p, r1, r2, z, cs)) (hp : pc + len = pc') : Ev d M pc ls (vr x :: st) h = if x ≠ none then Ev d M r1 ls st h else Ev d M pc' ls st h := by
  subst hp
  split
  · rename_i q; exact Ev_go (by unfold am_step; rw [hc]; exact if_pos q)
  · rename_i q; exact Ev_go (by unfold am_step; rw [hc]; exact if_neg q)
noncomputable def am_swE (d M : Nat) (ls st : List am_V) (h : am_H) (x : Int32) (df : Nat) : List (Int32 × Nat) → Option (Option am_V × am_H)
  | [] => Ev d M df ls st h
  | (c, t) :: cs => if x = c then Ev d M t ls st h else am_swE d M ls st h x df cs
theorem am_swE_eq {x : Int32} {df : Nat} : ∀ cs : List (Int × Nat), Ev d M (am_sw x cs df) ls st h = am_swE d M ls st h x df (cs.map fun q => (Int32.ofInt q.1, q.2))
  | [] => rfl
  | (c, t) :: cs => by
    rw [am_sw, List.map_cons, am_swE]
    split
    · rfl
    · exact am_swE_eq cs
theorem op_tableswitch {dd lo hi : Int} {os : Array Int} {x : Int32} {cv : List (Int32 × Nat)} (hc : am_code M pc = some (.tableswitch dd lo hi os, len, p, r1, r2, z, cs)) (hv : (cs.map fun q => (Int32.ofInt q.1, q.2)) = cv) : Ev d M pc ls (vi x :: st) h = am_swE d M ls st h x r1 cv := by
  rw [← hv, ← am_swE_eq]
  exact Ev_go (by unfold am_step; rw [hc]; rfl)
theorem op_lookupswitch {dd : Int} {ps : Array (Int × Int)} {x : Int32} {cv : List (Int32 × Nat)} (hc : am_code M pc = some (.lookupswitch dd ps, len, p, r1, r2, z, cs)) (hv : (cs.map fun q => (Int32.ofInt q.1, q.2)) = cv) : Ev d M pc ls (vi x :: st) h = am_swE d M ls st h x r1 cv := by
  rw [← hv, ← am_swE_eq]
  exact Ev_go (by unfold am_step; rw [hc]; rfl)
theorem op_getstatic (hc : am_code M pc = some (.getstatic i, len, p, 1, r2, z, cs)) (hp : pc + len = pc') : Ev d M pc ls st h = Ev d M pc' ls (vi 1 :: st) h := by subst hp; exact Ev_go (by unfold am_step; rw [hc]; rfl)
theorem op_getI {r : Option Nat}  (hc : am_code M pc = some (.getfield i, len, p, r1, r2, z, cs)) (hp : pc + len = pc') (h1 : r1 ≠ 902) (hf : am_ft r1 r2 = 0 ∨ am_ft r1 r2 = 3) : Ev d M pc ls (vr r :: st) h = r.bind fun n => if hkd h n = r1 then Ev d M pc' ls (vi (hI h n r2) :: st) h else none := by
  subst hp
  cases r with
  | none => exact Ev_none (by unfold am_step; rw [hc]; rfl)
  | some n =>
    show _ = if _ then _ else none
    split
    · rename_i q; exact Ev_go (by unfold am_step; rw [hc]; simp only [am_do]; rw [if_neg h1, if_pos q, if_pos hf])
    · rename_i q; exact Ev_none (by unfold am_step; rw [hc]; simp only [am_do]; rw [if_neg h1, if_neg q])
theorem op_getL {r : Option Nat}  (hc : am_code M pc = some (.getfield i, len, p, r1, r2, z, cs)) (hp : pc + len = pc') (h1 : r1 ≠ 902) (hf : am_ft r1 r2 = 1) : Ev d M pc ls (vr r :: st) h = r.bind fun n => if hkd h n = r1 then Ev d M pc' ls (vl (hL h n r2) :: st) h else none := by
  subst hp
  cases r with
  | none => exact Ev_none (by unfold am_step; rw [hc]; rfl)
  | some n =>
    show _ = if _ then _ else none
    split
    · rename_i q; exact Ev_go (by unfold am_step; rw [hc]; simp only [am_do]; rw [if_neg h1, if_pos q, if_neg (by rw [hf]; decide), if_pos hf])
    · rename_i q; exact Ev_none (by unfold am_step; rw [hc]; simp only [am_do]; rw [if_neg h1, if_neg q])
theorem op_getR {r : Option Nat}  (hc : am_code M pc = some (.getfield i, len, p, r1, r2, z, cs)) (hp : pc + len = pc') (h1 : r1 ≠ 902) (hf : am_ft r1 r2 = 2) : Ev d M pc ls (vr r :: st) h = r.bind fun n => if hkd h n = r1 then Ev d M pc' ls (vr (hR h n r2) :: st) h else none := by
  subst hp
  cases r with
  | none => exact Ev_none (by unfold am_step; rw [hc]; rfl)
  | some n =>
    show _ = if _ then _ else none
    split
    · rename_i q; exact Ev_go (by unfold am_step; rw [hc]; simp only [am_do]; rw [if_neg h1, if_pos q, if_neg (by rw [hf]; decide), if_neg (by rw [hf]; decide), if_pos hf])
    · rename_i q; exact Ev_none (by unfold am_step; rw [hc]; simp only [am_do]; rw [if_neg h1, if_neg q])
theorem op_getSV {r : Option Nat}  (hc : am_code M pc = some (.getfield i, len, p, 902, 0, z, cs)) (hp : pc + len = pc')  : Ev d M pc ls (vr r :: st) h = r.bind fun n => if hkd h n = 902 then Ev d M pc' ls (vr (hR h n 0) :: st) h else none := by
  subst hp
  cases r with
  | none => exact Ev_none (by unfold am_step; rw [hc]; rfl)
  | some n =>
    show _ = if _ then _ else none
    split
    · rename_i q; exact Ev_go (by unfold am_step; rw [hc]; simp only [am_do]; rw [if_pos trivial, if_pos q, if_pos trivial])
    · rename_i q; exact Ev_none (by unfold am_step; rw [hc]; simp only [am_do]; rw [if_pos trivial, if_neg q])
theorem op_getSC {r : Option Nat}  (hc : am_code M pc = some (.getfield i, len, p, 902, 1, z, cs)) (hp : pc + len = pc')  : Ev d M pc ls (vr r :: st) h = r.bind fun n => if hkd h n = 902 then Ev d M pc' ls (vi (hI h n 1) :: st) h else none := by
  subst hp
  cases r with
  | none => exact Ev_none (by unfold am_step; rw [hc]; rfl)
  | some n =>
    show _ = if _ then _ else none
    split
    · rename_i q; exact Ev_go (by unfold am_step; rw [hc]; simp only [am_do]; rw [if_pos trivial, if_pos q, if_neg (by decide), if_pos trivial])
    · rename_i q; exact Ev_none (by unfold am_step; rw [hc]; simp only [am_do]; rw [if_pos trivial, if_neg q])
theorem op_putI {r : Option Nat} {x : Int32} (hc : am_code M pc = some (.putfield i, len, p, r1, r2, z, cs)) (hp : pc + len = pc') (hf : am_ft r1 r2 = 0) : Ev d M pc ls (vi x :: vr r :: st) h = r.bind fun n => if hkd h n = r1 then Ev d M pc' ls st (setI h n r2 x) else none := by
  subst hp
  cases r with
  | none => exact Ev_none (by unfold am_step; rw [hc]; rfl)
  | some n =>
    show _ = if _ then _ else none
    split
    · rename_i q; exact Ev_go (by unfold am_step; rw [hc]; simp only [am_do]; rw [if_pos ⟨q, Or.inl hf⟩])
    · rename_i q; exact Ev_none (by unfold am_step; rw [hc]; simp only [am_do]; rw [if_neg (fun w => q w.1)])
theorem op_putZ {r : Option Nat} {x : Int32} (hc : am_code M pc = some (.putfield i, len, p, r1, r2, z, cs)) (hp : pc + len = pc') (hf : am_ft r1 r2 = 3) : Ev d M pc ls (vi x :: vr r :: st) h = r.bind fun n => if hkd h n = r1 ∧ (x = 0 ∨ x = 1) then Ev d M pc' ls st (setI h n r2 x) else none := by
  subst hp
  cases r with
  | none => exact Ev_none (by unfold am_step; rw [hc]; rfl)
  | some n =>
    show _ = if _ then _ else none
    split
    · rename_i q; exact Ev_go (by unfold am_step; rw [hc]; simp only [am_do]; rw [if_pos ⟨q.1, Or.inr ⟨hf, q.2⟩⟩])
    · rename_i q; exact Ev_none (by unfold am_step; rw [hc]; simp only [am_do]; rw [if_neg (fun w => q ⟨w.1, w.2.elim (fun e => absurd (hf.symm.trans e) (by decide)) (fun e => e.2)⟩)])
theorem op_putL {r : Option Nat} {x : Int64} (hc : am_code M pc = some (.putfield i, len, p, r1, r2, z, cs)) (hp : pc + len = pc') (hf : am_ft r1 r2 = 1) : Ev d M pc ls (vl x :: vr r :: st) h = r.bind fun n => if hkd h n = r1 then Ev d M pc' ls st (setL h n r2 x) else none := by
  subst hp
  cases r with
  | none => exact Ev_none (by unfold am_step; rw [hc]; rfl)
  | some n =>
    show _ = if _ then _ else none
    split
    · rename_i q; exact Ev_go (by unfold am_step; rw [hc]; simp only [am_do]; rw [if_pos ⟨q, hf⟩])
    · rename_i q; exact Ev_none (by unfold am_step; rw [hc]; simp only [am_do]; rw [if_neg (fun w => q w.1)])
theorem op_putR {r : Option Nat} {x : Option Nat} (hc : am_code M pc = some (.putfield i, len, p, r1, r2, z, cs)) (hp : pc + len = pc') (hf : am_ft r1 r2 = 2) : Ev d M pc ls (vr x :: vr r :: st) h = r.bind fun n => if hkd h n = r1 then Ev d M pc' ls st (setR h n r2 x) else none := by
  subst hp
  cases r with
  | none => exact Ev_none (by unfold am_step; rw [hc]; rfl)
  | some n =>
    show _ = if _ then _ else none
    split
    · rename_i q; exact Ev_go (by unfold am_step; rw [hc]; simp only [am_do]; rw [if_pos ⟨q, hf⟩])
    · rename_i q; exact Ev_none (by unfold am_step; rw [hc]; simp only [am_do]; rw [if_neg (fun w => q w.1)])
theorem op_iaload {r : Option Nat} {k : Int32} (hc : am_code M pc = some (.iaload, len, p, r1, r2, z, cs)) (hp : pc + len = pc')  : Ev d M pc ls (vi k :: vr r :: st) h = r.bind fun n => if (hkd h n = 100 ∨ hkd h n = 901) ∧ am_ix k (hln h n) then Ev d M pc' ls (vi (hI h n k.toNatClampNeg) :: st) h else none := by
  subst hp
  cases r with
  | none => exact Ev_none (by unfold am_step; rw [hc]; rfl)
  | some n =>
    show _ = if _ then _ else none
    split
    · rename_i q; exact Ev_go (by unfold am_step; rw [hc]; simp only [am_do]; rw [if_pos q])
    · rename_i q; exact Ev_none (by unfold am_step; rw [hc]; simp only [am_do]; rw [if_neg q])
theorem op_baload {r : Option Nat} {k : Int32} (hc : am_code M pc = some (.baload, len, p, r1, r2, z, cs)) (hp : pc + len = pc')  : Ev d M pc ls (vi k :: vr r :: st) h = r.bind fun n => if (hkd h n = 101 ∨ hkd h n = 903) ∧ am_ix k (hln h n) then Ev d M pc' ls (vi (hI h n k.toNatClampNeg) :: st) h else none := by
  subst hp
  cases r with
  | none => exact Ev_none (by unfold am_step; rw [hc]; rfl)
  | some n =>
    show _ = if _ then _ else none
    split
    · rename_i q; exact Ev_go (by unfold am_step; rw [hc]; simp only [am_do]; rw [if_pos q])
    · rename_i q; exact Ev_none (by unfold am_step; rw [hc]; simp only [am_do]; rw [if_neg q])
theorem op_laload {r : Option Nat} {k : Int32} (hc : am_code M pc = some (.laload, len, p, r1, r2, z, cs)) (hp : pc + len = pc')  : Ev d M pc ls (vi k :: vr r :: st) h = r.bind fun n => if hkd h n = 102 ∧ am_ix k (hln h n) then Ev d M pc' ls (vl (hL h n k.toNatClampNeg) :: st) h else none := by
  subst hp
  cases r with
  | none => exact Ev_none (by unfold am_step; rw [hc]; rfl)
  | some n =>
    show _ = if _ then _ else none
    split
    · rename_i q; exact Ev_go (by unfold am_step; rw [hc]; simp only [am_do]; rw [if_pos q])
    · rename_i q; exact Ev_none (by unfold am_step; rw [hc]; simp only [am_do]; rw [if_neg q])
theorem op_aaload {r : Option Nat} {k : Int32} (hc : am_code M pc = some (.aaload, len, p, r1, r2, z, cs)) (hp : pc + len = pc')  : Ev d M pc ls (vi k :: vr r :: st) h = r.bind fun n => if (105 ≤ hkd h n ∧ hkd h n < 200) ∧ am_ix k (hln h n) then Ev d M pc' ls (vr (hR h n k.toNatClampNeg) :: st) h else none := by
  subst hp
  cases r with
  | none => exact Ev_none (by unfold am_step; rw [hc]; rfl)
  | some n =>
    show _ = if _ then _ else none
    split
    · rename_i q; exact Ev_go (by unfold am_step; rw [hc]; simp only [am_do]; rw [if_pos q])
    · rename_i q; exact Ev_none (by unfold am_step; rw [hc]; simp only [am_do]; rw [if_neg q])
theorem op_iastore {r : Option Nat} {x k : Int32} (hc : am_code M pc = some (.iastore, len, p, r1, r2, z, cs)) (hp : pc + len = pc')  : Ev d M pc ls (vi x :: vi k :: vr r :: st) h = r.bind fun n => if hkd h n = 100 ∧ am_ix k (hln h n) then Ev d M pc' ls st (setI h n k.toNatClampNeg x) else none := by
  subst hp
  cases r with
  | none => exact Ev_none (by unfold am_step; rw [hc]; rfl)
  | some n =>
    show _ = if _ then _ else none
    split
    · rename_i q; exact Ev_go (by unfold am_step; rw [hc]; simp only [am_do]; rw [if_pos q])
    · rename_i q; exact Ev_none (by unfold am_step; rw [hc]; simp only [am_do]; rw [if_neg q])
theorem op_bastore {r : Option Nat} {x k : Int32} (hc : am_code M pc = some (.bastore, len, p, r1, r2, z, cs)) (hp : pc + len = pc')  : Ev d M pc ls (vi x :: vi k :: vr r :: st) h = r.bind fun n => if hkd h n = 101 ∧ am_ix k (hln h n) ∧ (x = 0 ∨ x = 1) then Ev d M pc' ls st (setI h n k.toNatClampNeg x) else none := by
  subst hp
  cases r with
  | none => exact Ev_none (by unfold am_step; rw [hc]; rfl)
  | some n =>
    show _ = if _ then _ else none
    split
    · rename_i q; exact Ev_go (by unfold am_step; rw [hc]; simp only [am_do]; rw [if_pos q])
    · rename_i q; exact Ev_none (by unfold am_step; rw [hc]; simp only [am_do]; rw [if_neg q])
theorem op_lastore {r : Option Nat} {x : Int64} {k : Int32} (hc : am_code M pc = some (.lastore, len, p, r1, r2, z, cs)) (hp : pc + len = pc')  : Ev d M pc ls (vl x :: vi k :: vr r :: st) h = r.bind fun n => if hkd h n = 102 ∧ am_ix k (hln h n) then Ev d M pc' ls st (setL h n k.toNatClampNeg x) else none := by
  subst hp
  cases r with
  | none => exact Ev_none (by unfold am_step; rw [hc]; rfl)
  | some n =>
    show _ = if _ then _ else none
    split
    · rename_i q; exact Ev_go (by unfold am_step; rw [hc]; simp only [am_do]; rw [if_pos q])
    · rename_i q; exact Ev_none (by unfold am_step; rw [hc]; simp only [am_do]; rw [if_neg q])
theorem op_arraylength {r : Option Nat}  (hc : am_code M pc = some (.arraylength, len, p, r1, r2, z, cs)) (hp : pc + len = pc')  : Ev d M pc ls (vr r :: st) h = r.bind fun n => if (100 ≤ hkd h n ∧ hkd h n < 200) ∨ hkd h n = 901 ∨ hkd h n = 903 then Ev d M pc' ls (vi (nI (hln h n)) :: st) h else none := by
  subst hp
  cases r with
  | none => exact Ev_none (by unfold am_step; rw [hc]; rfl)
  | some n =>
    show _ = if _ then _ else none
    split
    · rename_i q; exact Ev_go (by unfold am_step; rw [hc]; simp only [am_do]; rw [if_pos q])
    · rename_i q; exact Ev_none (by unfold am_step; rw [hc]; simp only [am_do]; rw [if_neg q])
theorem op_aastore {r w : Option Nat} {k : Int32} (hc : am_code M pc = some (.aastore, len, p, r1, r2, z, cs)) (hp : pc + len = pc') : Ev d M pc ls (vr w :: vi k :: vr r :: st) h = r.bind fun n => w.bind fun v => if (110 ≤ hkd h n ∧ hkd h n < 190) ∧ hkd h v + 110 = hkd h n ∧ am_ix k (hln h n) then Ev d M pc' ls st (setR h n k.toNatClampNeg (some v)) else none := by
  subst hp
  cases r with
  | none => exact Ev_none (by unfold am_step; rw [hc]; cases w <;> rfl)
  | some n =>
    cases w with
    | none => exact Ev_none (by unfold am_step; rw [hc]; rfl)
    | some v =>
      show _ = if _ then _ else none
      split
      · rename_i q; exact Ev_go (by unfold am_step; rw [hc]; exact if_pos q)
      · rename_i q; exact Ev_none (by unfold am_step; rw [hc]; exact if_neg q)
theorem op_newarray {t : ArrayType} {x : Int32} (hc : am_code M pc = some (.newarray t, len, p, r1, r2, z, cs)) (hp : pc + len = pc') : Ev d M pc ls (vi x :: st) h = if hk h < 900000 ∧ am_ix x 4096 then Ev d M pc' ls (vr (some (hk h + 1)) :: st) (newc h r1 x.toNatClampNeg x.toNatClampNeg) else none := by
  subst hp
  split
  · rename_i q; exact Ev_go (by unfold am_step; rw [hc]; exact if_pos q)
  · rename_i q; exact Ev_none (by unfold am_step; rw [hc]; exact if_neg q)
theorem op_anewarray {x : Int32} (hc : am_code M pc = some (.anewarray i, len, p, r1, r2, z, cs)) (hp : pc + len = pc') : Ev d M pc ls (vi x :: st) h = if hk h < 900000 ∧ am_ix x 4096 then Ev d M pc' ls (vr (some (hk h + 1)) :: st) (newc h (110 + r1) x.toNatClampNeg x.toNatClampNeg) else none := by
  subst hp
  split
  · rename_i q; exact Ev_go (by unfold am_step; rw [hc]; exact if_pos q)
  · rename_i q; exact Ev_none (by unfold am_step; rw [hc]; exact if_neg q)
theorem op_multianewarray {m : Nat} {x y : Int32} (hc : am_code M pc = some (.multianewarray i m, len, p, r1, r2, z, cs)) (hp : pc + len = pc') : Ev d M pc ls (vi y :: vi x :: st) h = if hk h < 900000 ∧ am_ix x 4096 ∧ am_ix y 4096 then Ev d M pc' ls (vr (some (hk h + 1)) :: st) (newg h x.toNatClampNeg y.toNatClampNeg) else none := by
  subst hp
  split
  · rename_i q; exact Ev_go (by unfold am_step; rw [hc]; exact if_pos q)
  · rename_i q; exact Ev_none (by unfold am_step; rw [hc]; exact if_neg q)
theorem op_new {k : Nat} (hc : am_code M pc = some (.new i, len, p, r1, r2, z, cs)) (hp : pc + len = pc') (hk' : (am_ftl.getD r1 []).length = k) : Ev d M pc ls st h = if hk h < 900000 then Ev d M pc' ls (vr (some (hk h + 1)) :: st) (newc h r1 0 k) else none := by
  subst hp
  subst hk'
  split
  · rename_i q; exact Ev_go (by unfold am_step; rw [hc]; exact if_pos q)
  · rename_i q; exact Ev_none (by unfold am_step; rw [hc]; exact if_neg q)
theorem op_ireturnI {x : Int32} (hc : am_code M pc = some (.ireturn, len, p, r1, r2, z, cs)) (hr : am_rt M = some .int) : Ev d M pc ls [vi x] h = some (some (vi x), h) := Ev_ret (by unfold am_step; rw [hc]; simp only [am_do]; rw [hr]; exact if_pos rfl)
theorem op_ireturnZ {x : Int32} (hc : am_code M pc = some (.ireturn, len, p, r1, r2, z, cs)) (hr : am_rt M = some .boolean) : Ev d M pc ls [vi x] h = if x = 0 ∨ x = 1 then some (some (vi x), h) else none := by
  split
  · rename_i q; exact Ev_ret (by unfold am_step; rw [hc]; simp only [am_do]; rw [hr]; exact if_pos (decide_eq_true q))
  · rename_i q; exact Ev_none (by unfold am_step; rw [hc]; simp only [am_do]; rw [hr]; exact if_neg (fun e => q (of_decide_eq_true e)))
theorem op_ireturnN {x : Int32} (hc : am_code M pc = some (.ireturn, len, p, r1, r2, z, cs)) : Ev d M pc ls [vi x] h = if am_nar (am_rt M) x = true then some (some (vi x), h) else none := by
  split
  · rename_i q; exact Ev_ret (by unfold am_step; rw [hc]; exact if_pos q)
  · rename_i q; exact Ev_none (by unfold am_step; rw [hc]; exact if_neg q)
theorem op_lreturn {x : Int64} (hc : am_code M pc = some (.lreturn, len, p, r1, r2, z, cs)) (hr : am_rt M = some .long) : Ev d M pc ls [vl x] h = some (some (vl x), h) := Ev_ret (by unfold am_step; rw [hc]; exact if_pos hr)
theorem op_areturn {x : Option Nat} {c : String} (hc : am_code M pc = some (.areturn, len, p, r1, r2, z, cs)) (hr : am_rt M = some (.object c)) : Ev d M pc ls [vr x] h = some (some (vr x), h) := Ev_ret (by unfold am_step; rw [hc]; simp only [am_do]; rw [hr])
theorem op_return (hc : am_code M pc = some (.return_, len, p, r1, r2, z, cs)) (hr : am_rt M = none) : Ev d M pc ls [] h = some (none, h) := Ev_ret (by unfold am_step; rw [hc]; exact if_pos hr)
theorem op_static {as st' : List am_V} (hc : am_code M pc = some (.invokestatic i, len, p, r1, r2, z, cs)) (hp : pc + 3 = pc') (hj : Nat.ble 9000 r1 = false) (ha : (st.take r2).reverse = as) (hb : st.drop r2 = st') (hl : (Nat.ble r2 st.length && Nat.ble st'.length 4) = true) : Ev (d + 1) M pc ls st h = (Cl d r1 as h).bind fun x => Ev (d + 1) M pc' ls (x.1.toList ++ st') x.2 := by
  subst hp
  subst ha; subst hb
  rw [Bool.and_eq_true] at hl
  rw [Ev_call (j := r1) (as := (st.take r2).reverse) (st' := st.drop r2) (by unfold am_step; rw [hc]; exact if_pos ⟨Nat.le_of_ble_eq_true hl.1, Nat.le_of_ble_eq_true hl.2⟩)]
  unfold Cx
  rw [if_neg (fun e => by rw [Nat.ble_eq_true_of_le e] at hj; cases hj)]
theorem op_staticP {as st' : List am_V} (hc : am_code M pc = some (.invokestatic i, len, p, r1, r2, z, cs)) (hp : pc + 3 = pc') (hj : Nat.ble 9000 r1 = true) (ha : (st.take r2).reverse = as) (hb : st.drop r2 = st') (hl : (Nat.ble r2 st.length && Nat.ble st'.length 4) = true) : Ev (d + 4) M pc ls st h = (am_prim r1 as h).bind fun x => Ev (d + 4) M pc' ls (x.1.toList ++ st') x.2 := by
  subst hp
  subst ha; subst hb
  rw [Bool.and_eq_true] at hl
  rw [Ev_call (d := d + 3) (j := r1) (as := (st.take r2).reverse) (st' := st.drop r2) (by unfold am_step; rw [hc]; exact if_pos ⟨Nat.le_of_ble_eq_true hl.1, Nat.le_of_ble_eq_true hl.2⟩)]
  unfold Cx
  rw [if_pos (Nat.le_of_ble_eq_true hj), if_pos (Nat.le_add_left 3 d)]
theorem op_special {r : Option Nat} {as st' : List am_V} (hc : am_code M pc = some (.invokespecial i, len, p, r1, r2, z, cs)) (hp : pc + 3 = pc') (hj : Nat.ble 9000 r1 = false) (hr : st[r2]? = some (vr r)) (ha : (st.take (r2 + 1)).reverse = as) (hb : st.drop (r2 + 1) = st') (hl : Nat.ble st'.length 4 = true) : Ev (d + 1) M pc ls st h = r.bind fun _ => (Cl d r1 as h).bind fun x => Ev (d + 1) M pc' ls (x.1.toList ++ st') x.2 := by
  subst hp
  subst ha; subst hb
  cases r with
  | none => exact Ev_none (by unfold am_step; rw [hc]; simp only [am_do]; rw [hr])
  | some n =>
    rw [Ev_call (j := r1) (as := (st.take (r2 + 1)).reverse) (st' := st.drop (r2 + 1)) (by unfold am_step; rw [hc]; simp only [am_do]; rw [hr]; exact if_pos (Nat.le_of_ble_eq_true hl))]
    unfold Cx
    rw [if_neg (fun e => by rw [Nat.ble_eq_true_of_le e] at hj; cases hj)]
    rfl
theorem op_specialO {r : Option Nat} {st' : List am_V} (hc : am_code M pc = some (.invokespecial i, len, p, 9001, r2, z, cs)) (hp : pc + 3 = pc') (hr : st[r2]? = some (vr r)) (hb : st.drop (r2 + 1) = st') (hl : Nat.ble st'.length 4 = true) : Ev (d + 4) M pc ls st h = r.bind fun _ => Ev (d + 4) M pc' ls st' h := by
  subst hp
  subst hb
  cases r with
  | none => exact Ev_none (by unfold am_step; rw [hc]; simp only [am_do]; rw [hr])
  | some n =>
    rw [Ev_call (d := d + 3) (j := 9001) (as := (st.take (r2 + 1)).reverse) (st' := st.drop (r2 + 1)) (by unfold am_step; rw [hc]; simp only [am_do]; rw [hr]; exact if_pos (Nat.le_of_ble_eq_true hl))]
    unfold Cx
    rw [if_pos (by decide), if_pos (Nat.le_add_left 3 d)]
    rfl
theorem op_virtual {r : Option Nat} {as st' : List am_V} {m : Nat} (hc : am_code M pc = some (.invokevirtual i, len, p, r1, r2, z, cs)) (hp : pc + 3 = pc') (hm : am_mc r1 = m) (hj : Nat.ble 9000 r1 = false) (hr : st[r2]? = some (vr r)) (ha : (st.take (r2 + 1)).reverse = as) (hb : st.drop (r2 + 1) = st') (hl : Nat.ble st'.length 4 = true) : Ev (d + 1) M pc ls st h = r.bind fun n => if hkd h n = m then (Cl d r1 as h).bind fun x => Ev (d + 1) M pc' ls (x.1.toList ++ st') x.2 else none := by
  subst hp
  subst ha; subst hb; subst hm
  cases r with
  | none => exact Ev_none (by unfold am_step; rw [hc]; simp only [am_do]; rw [hr])
  | some n =>
    show _ = if _ then _ else none
    split
    · rename_i q
      rw [Ev_call (j := r1) (as := (st.take (r2 + 1)).reverse) (st' := st.drop (r2 + 1)) (by unfold am_step; rw [hc]; simp only [am_do]; rw [hr]; exact if_pos ⟨q, Nat.le_of_ble_eq_true hl⟩)]
      unfold Cx
      rw [if_neg (fun e => by rw [Nat.ble_eq_true_of_le e] at hj; cases hj)]
    · rename_i q; exact Ev_none (by unfold am_step; rw [hc]; simp only [am_do]; rw [hr]; exact if_neg (fun w => q w.1))
end OPS
