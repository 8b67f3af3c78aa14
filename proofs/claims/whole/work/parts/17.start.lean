/-! the law's entry: what the tables know; the first heap -/
def am_trm (i : Nat) : Term := .string ((am_sr.getD i ("", 0, "")).1) ((am_sr.getD i ("", 0, "")).2.1)
def am_flat : List Cond := flatC (Jvm.Cond.and given_1 narrow_1)
theorem am_f1 : ∀ i, i < 14 → Cond.exactly (am_trm i) "java/lang/String" ∈ am_flat := by decide +kernel
theorem am_f2 : ∀ i, i < 14 → Cond.eq (.field (am_trm i) "java/lang/String" "coder" "B") (.int 0) ∈ am_flat := by decide +kernel
theorem am_f3 : ∀ i, i < 14 → Cond.arrayOf (.field (am_trm i) "java/lang/String" "value" "[B") .byte ∈ am_flat := by decide +kernel
theorem am_f4 : ∀ i, i < 14 → Cond.eq (.length (.field (am_trm i) "java/lang/String" "value" "[B")) (.int (Int32.ofNat (am_sl.getD i 0))) ∈ am_flat := by decide +kernel
def am_el (i j : Nat) : Cond := Cond.eq (.elem (.field (am_trm i) "java/lang/String" "value" "[B") (.int (Int32.ofNat j))) (.int ((am_sb.getD i []).getD j 0))
theorem am_f5_0 : (List.range (am_sl.getD 0 0)).map (am_el 0) = (am_flat.drop 73).take (am_sl.getD 0 0) := by decide +kernel
theorem am_f5_1 : (List.range (am_sl.getD 1 0)).map (am_el 1) = (am_flat.drop 136).take (am_sl.getD 1 0) := by decide +kernel
theorem am_f5_2 : (List.range (am_sl.getD 2 0)).map (am_el 2) = (am_flat.drop 145).take (am_sl.getD 2 0) := by decide +kernel
theorem am_f5_3 : (List.range (am_sl.getD 3 0)).map (am_el 3) = (am_flat.drop 155).take (am_sl.getD 3 0) := by decide +kernel
theorem am_f5_4 : (List.range (am_sl.getD 4 0)).map (am_el 4) = (am_flat.drop 164).take (am_sl.getD 4 0) := by decide +kernel
theorem am_f5_5 : (List.range (am_sl.getD 5 0)).map (am_el 5) = (am_flat.drop 175).take (am_sl.getD 5 0) := by decide +kernel
theorem am_f5_6 : (List.range (am_sl.getD 6 0)).map (am_el 6) = (am_flat.drop 187).take (am_sl.getD 6 0) := by decide +kernel
theorem am_f5_7 : (List.range (am_sl.getD 7 0)).map (am_el 7) = (am_flat.drop 201).take (am_sl.getD 7 0) := by decide +kernel
theorem am_f5_8 : (List.range (am_sl.getD 8 0)).map (am_el 8) = (am_flat.drop 215).take (am_sl.getD 8 0) := by decide +kernel
theorem am_f5_9 : (List.range (am_sl.getD 9 0)).map (am_el 9) = (am_flat.drop 231).take (am_sl.getD 9 0) := by decide +kernel
theorem am_f5_10 : (List.range (am_sl.getD 10 0)).map (am_el 10) = (am_flat.drop 249).take (am_sl.getD 10 0) := by decide +kernel
theorem am_f5_11 : (List.range (am_sl.getD 11 0)).map (am_el 11) = (am_flat.drop 268).take (am_sl.getD 11 0) := by decide +kernel
theorem am_f5_12 : (List.range (am_sl.getD 12 0)).map (am_el 12) = (am_flat.drop 0).take (am_sl.getD 12 0) := by decide +kernel
theorem am_f5_13 : (List.range (am_sl.getD 13 0)).map (am_el 13) = (am_flat.drop 304).take (am_sl.getD 13 0) := by decide +kernel
theorem am_f5 : ∀ i, i < 14 → ∀ j, j < am_sl.getD i 0 → am_el i j ∈ am_flat := by
  intro i hi j hj
  match i, hi, hj with
  | 0, _, hj => exact va_run am_f5_0 j hj
  | 1, _, hj => exact va_run am_f5_1 j hj
  | 2, _, hj => exact va_run am_f5_2 j hj
  | 3, _, hj => exact va_run am_f5_3 j hj
  | 4, _, hj => exact va_run am_f5_4 j hj
  | 5, _, hj => exact va_run am_f5_5 j hj
  | 6, _, hj => exact va_run am_f5_6 j hj
  | 7, _, hj => exact va_run am_f5_7 j hj
  | 8, _, hj => exact va_run am_f5_8 j hj
  | 9, _, hj => exact va_run am_f5_9 j hj
  | 10, _, hj => exact va_run am_f5_10 j hj
  | 11, _, hj => exact va_run am_f5_11 j hj
  | 12, _, hj => exact va_run am_f5_12 j hj
  | 13, _, hj => exact va_run am_f5_13 j hj
  | i + 14, hi, _ => omega
theorem am_g6 : ∀ i j : Nat, i < j → j < 14 → Cond.not (Cond.eq (am_trm i) (am_trm j)) ∈ am_flat ∨ Cond.not (Cond.eq (am_trm j) (am_trm i)) ∈ am_flat := by
  intro i j hij hj
  match j, hj with
  | 0, _ => omega
  | 1, _ =>
    match i, hij with
    | 0, _ => exact Or.inl (List.mem_of_getElem? (i := 140) (by decide +kernel))
    | i + 1, h => omega
  | 2, _ =>
    match i, hij with
    | 0, _ => exact Or.inl (List.mem_of_getElem? (i := 149) (by decide +kernel))
    | 1, _ => exact Or.inl (List.mem_of_getElem? (i := 150) (by decide +kernel))
    | i + 2, h => omega
  | 3, _ =>
    match i, hij with
    | 0, _ => exact Or.inl (List.mem_of_getElem? (i := 157) (by decide +kernel))
    | 1, _ => exact Or.inl (List.mem_of_getElem? (i := 158) (by decide +kernel))
    | 2, _ => exact Or.inl (List.mem_of_getElem? (i := 159) (by decide +kernel))
    | i + 3, h => omega
  | 4, _ =>
    match i, hij with
    | 0, _ => exact Or.inl (List.mem_of_getElem? (i := 167) (by decide +kernel))
    | 1, _ => exact Or.inl (List.mem_of_getElem? (i := 168) (by decide +kernel))
    | 2, _ => exact Or.inl (List.mem_of_getElem? (i := 169) (by decide +kernel))
    | 3, _ => exact Or.inl (List.mem_of_getElem? (i := 170) (by decide +kernel))
    | i + 4, h => omega
  | 5, _ =>
    match i, hij with
    | 0, _ => exact Or.inl (List.mem_of_getElem? (i := 178) (by decide +kernel))
    | 1, _ => exact Or.inl (List.mem_of_getElem? (i := 179) (by decide +kernel))
    | 2, _ => exact Or.inl (List.mem_of_getElem? (i := 180) (by decide +kernel))
    | 3, _ => exact Or.inl (List.mem_of_getElem? (i := 181) (by decide +kernel))
    | 4, _ => exact Or.inl (List.mem_of_getElem? (i := 182) (by decide +kernel))
    | i + 5, h => omega
  | 6, _ =>
    match i, hij with
    | 0, _ => exact Or.inl (List.mem_of_getElem? (i := 191) (by decide +kernel))
    | 1, _ => exact Or.inl (List.mem_of_getElem? (i := 192) (by decide +kernel))
    | 2, _ => exact Or.inl (List.mem_of_getElem? (i := 193) (by decide +kernel))
    | 3, _ => exact Or.inl (List.mem_of_getElem? (i := 194) (by decide +kernel))
    | 4, _ => exact Or.inl (List.mem_of_getElem? (i := 195) (by decide +kernel))
    | 5, _ => exact Or.inl (List.mem_of_getElem? (i := 196) (by decide +kernel))
    | i + 6, h => omega
  | 7, _ =>
    match i, hij with
    | 0, _ => exact Or.inl (List.mem_of_getElem? (i := 204) (by decide +kernel))
    | 1, _ => exact Or.inl (List.mem_of_getElem? (i := 205) (by decide +kernel))
    | 2, _ => exact Or.inl (List.mem_of_getElem? (i := 206) (by decide +kernel))
    | 3, _ => exact Or.inl (List.mem_of_getElem? (i := 207) (by decide +kernel))
    | 4, _ => exact Or.inl (List.mem_of_getElem? (i := 208) (by decide +kernel))
    | 5, _ => exact Or.inl (List.mem_of_getElem? (i := 209) (by decide +kernel))
    | 6, _ => exact Or.inl (List.mem_of_getElem? (i := 210) (by decide +kernel))
    | i + 7, h => omega
  | 8, _ =>
    match i, hij with
    | 0, _ => exact Or.inl (List.mem_of_getElem? (i := 219) (by decide +kernel))
    | 1, _ => exact Or.inl (List.mem_of_getElem? (i := 220) (by decide +kernel))
    | 2, _ => exact Or.inl (List.mem_of_getElem? (i := 221) (by decide +kernel))
    | 3, _ => exact Or.inl (List.mem_of_getElem? (i := 222) (by decide +kernel))
    | 4, _ => exact Or.inl (List.mem_of_getElem? (i := 223) (by decide +kernel))
    | 5, _ => exact Or.inl (List.mem_of_getElem? (i := 224) (by decide +kernel))
    | 6, _ => exact Or.inl (List.mem_of_getElem? (i := 225) (by decide +kernel))
    | 7, _ => exact Or.inl (List.mem_of_getElem? (i := 226) (by decide +kernel))
    | i + 8, h => omega
  | 9, _ =>
    match i, hij with
    | 0, _ => exact Or.inl (List.mem_of_getElem? (i := 236) (by decide +kernel))
    | 1, _ => exact Or.inl (List.mem_of_getElem? (i := 237) (by decide +kernel))
    | 2, _ => exact Or.inl (List.mem_of_getElem? (i := 238) (by decide +kernel))
    | 3, _ => exact Or.inl (List.mem_of_getElem? (i := 239) (by decide +kernel))
    | 4, _ => exact Or.inl (List.mem_of_getElem? (i := 240) (by decide +kernel))
    | 5, _ => exact Or.inl (List.mem_of_getElem? (i := 241) (by decide +kernel))
    | 6, _ => exact Or.inl (List.mem_of_getElem? (i := 242) (by decide +kernel))
    | 7, _ => exact Or.inl (List.mem_of_getElem? (i := 243) (by decide +kernel))
    | 8, _ => exact Or.inl (List.mem_of_getElem? (i := 244) (by decide +kernel))
    | i + 9, h => omega
  | 10, _ =>
    match i, hij with
    | 0, _ => exact Or.inl (List.mem_of_getElem? (i := 254) (by decide +kernel))
    | 1, _ => exact Or.inl (List.mem_of_getElem? (i := 255) (by decide +kernel))
    | 2, _ => exact Or.inl (List.mem_of_getElem? (i := 256) (by decide +kernel))
    | 3, _ => exact Or.inl (List.mem_of_getElem? (i := 257) (by decide +kernel))
    | 4, _ => exact Or.inl (List.mem_of_getElem? (i := 258) (by decide +kernel))
    | 5, _ => exact Or.inl (List.mem_of_getElem? (i := 259) (by decide +kernel))
    | 6, _ => exact Or.inl (List.mem_of_getElem? (i := 260) (by decide +kernel))
    | 7, _ => exact Or.inl (List.mem_of_getElem? (i := 261) (by decide +kernel))
    | 8, _ => exact Or.inl (List.mem_of_getElem? (i := 262) (by decide +kernel))
    | 9, _ => exact Or.inl (List.mem_of_getElem? (i := 263) (by decide +kernel))
    | i + 10, h => omega
  | 11, _ =>
    match i, hij with
    | 0, _ => exact Or.inl (List.mem_of_getElem? (i := 273) (by decide +kernel))
    | 1, _ => exact Or.inl (List.mem_of_getElem? (i := 274) (by decide +kernel))
    | 2, _ => exact Or.inl (List.mem_of_getElem? (i := 275) (by decide +kernel))
    | 3, _ => exact Or.inl (List.mem_of_getElem? (i := 276) (by decide +kernel))
    | 4, _ => exact Or.inl (List.mem_of_getElem? (i := 277) (by decide +kernel))
    | 5, _ => exact Or.inl (List.mem_of_getElem? (i := 278) (by decide +kernel))
    | 6, _ => exact Or.inl (List.mem_of_getElem? (i := 279) (by decide +kernel))
    | 7, _ => exact Or.inl (List.mem_of_getElem? (i := 280) (by decide +kernel))
    | 8, _ => exact Or.inl (List.mem_of_getElem? (i := 281) (by decide +kernel))
    | 9, _ => exact Or.inl (List.mem_of_getElem? (i := 282) (by decide +kernel))
    | 10, _ => exact Or.inl (List.mem_of_getElem? (i := 283) (by decide +kernel))
    | i + 11, h => omega
  | 12, _ =>
    match i, hij with
    | 0, _ => exact Or.inl (List.mem_of_getElem? (i := 288) (by decide +kernel))
    | 1, _ => exact Or.inl (List.mem_of_getElem? (i := 289) (by decide +kernel))
    | 2, _ => exact Or.inl (List.mem_of_getElem? (i := 290) (by decide +kernel))
    | 3, _ => exact Or.inl (List.mem_of_getElem? (i := 291) (by decide +kernel))
    | 4, _ => exact Or.inl (List.mem_of_getElem? (i := 292) (by decide +kernel))
    | 5, _ => exact Or.inl (List.mem_of_getElem? (i := 293) (by decide +kernel))
    | 6, _ => exact Or.inl (List.mem_of_getElem? (i := 294) (by decide +kernel))
    | 7, _ => exact Or.inl (List.mem_of_getElem? (i := 295) (by decide +kernel))
    | 8, _ => exact Or.inl (List.mem_of_getElem? (i := 296) (by decide +kernel))
    | 9, _ => exact Or.inl (List.mem_of_getElem? (i := 297) (by decide +kernel))
    | 10, _ => exact Or.inl (List.mem_of_getElem? (i := 298) (by decide +kernel))
    | 11, _ => exact Or.inl (List.mem_of_getElem? (i := 299) (by decide +kernel))
    | i + 12, h => omega
  | 13, _ =>
    match i, hij with
    | 0, _ => exact Or.inl (List.mem_of_getElem? (i := 312) (by decide +kernel))
    | 1, _ => exact Or.inl (List.mem_of_getElem? (i := 313) (by decide +kernel))
    | 2, _ => exact Or.inl (List.mem_of_getElem? (i := 314) (by decide +kernel))
    | 3, _ => exact Or.inl (List.mem_of_getElem? (i := 315) (by decide +kernel))
    | 4, _ => exact Or.inl (List.mem_of_getElem? (i := 316) (by decide +kernel))
    | 5, _ => exact Or.inl (List.mem_of_getElem? (i := 317) (by decide +kernel))
    | 6, _ => exact Or.inl (List.mem_of_getElem? (i := 318) (by decide +kernel))
    | 7, _ => exact Or.inl (List.mem_of_getElem? (i := 319) (by decide +kernel))
    | 8, _ => exact Or.inl (List.mem_of_getElem? (i := 320) (by decide +kernel))
    | 9, _ => exact Or.inl (List.mem_of_getElem? (i := 321) (by decide +kernel))
    | 10, _ => exact Or.inl (List.mem_of_getElem? (i := 322) (by decide +kernel))
    | 11, _ => exact Or.inl (List.mem_of_getElem? (i := 323) (by decide +kernel))
    | 12, _ => exact Or.inl (List.mem_of_getElem? (i := 324) (by decide +kernel))
    | i + 13, h => omega
  | j + 14, h => omega
theorem am_f6 : ∀ i, i < 14 → ∀ j, j < 14 → i ≠ j → Cond.not (Cond.eq (am_trm i) (am_trm j)) ∈ am_flat ∨ Cond.not (Cond.eq (am_trm j) (am_trm i)) ∈ am_flat := by
  intro i hi j hj hij
  by_cases q : i < j
  · exact am_g6 i j q hj
  · exact (am_g6 j i (by omega) hi).symm
theorem am_f7 : Cond.eq (.static "java/lang/String" "COMPACT_STRINGS" "Z") (.int 1) ∈ am_flat := by decide +kernel
theorem am_f8 : Cond.isRef (.static "jdk/internal/util/Preconditions" "SIOOBE_FORMATTER" "Ljava/util/function/BiFunction;") ∈ am_flat := by decide +kernel
def am_nth (p : Nat) (w : Cond) : Bool := decide (tables_1[p]? = some w)
theorem am_tin {p : Nat} {w : Cond} (h : am_nth p w = true) : w ∈ lw_tbl := List.mem_append_right _ (List.mem_of_getElem? (of_decide_eq_true h))
theorem am_s1 : ∀ i : Nat, i < 14 → ∀ q : String × Nat × String, am_sr[i]? = some q → Cond.stringRef q.1 q.2.1 q.2.2 ∈ lw_tbl := by
  intro i hi q hq
  match i, hi, hq with
  | 0, _, hq => cases hq; exact am_tin (p := 225) (by decide +kernel)
  | 1, _, hq => cases hq; exact am_tin (p := 315) (by decide +kernel)
  | 2, _, hq => cases hq; exact am_tin (p := 316) (by decide +kernel)
  | 3, _, hq => cases hq; exact am_tin (p := 317) (by decide +kernel)
  | 4, _, hq => cases hq; exact am_tin (p := 318) (by decide +kernel)
  | 5, _, hq => cases hq; exact am_tin (p := 319) (by decide +kernel)
  | 6, _, hq => cases hq; exact am_tin (p := 320) (by decide +kernel)
  | 7, _, hq => cases hq; exact am_tin (p := 321) (by decide +kernel)
  | 8, _, hq => cases hq; exact am_tin (p := 322) (by decide +kernel)
  | 9, _, hq => cases hq; exact am_tin (p := 323) (by decide +kernel)
  | 10, _, hq => cases hq; exact am_tin (p := 324) (by decide +kernel)
  | 11, _, hq => cases hq; exact am_tin (p := 325) (by decide +kernel)
  | 12, _, hq => cases hq; exact am_tin (p := 326) (by decide +kernel)
  | 13, _, hq => cases hq; exact am_tin (p := 331) (by decide +kernel)
  | i + 14, hi, _ => omega
theorem am_lsC : Cond.laysStatic "java/lang/String" "COMPACT_STRINGS" "Z" ∈ lw_tbl := am_tin (p := 239) (by decide +kernel)
theorem am_lsF : Cond.laysStatic "jdk/internal/util/Preconditions" "SIOOBE_FORMATTER" "Ljava/util/function/BiFunction;" ∈ lw_tbl := am_tin (p := 255) (by decide +kernel)
theorem am_ao : Cond.arrayOver (.array .int) ∈ lw_tbl := am_tin (p := 37) (by decide +kernel)
theorem am_aoC : ∀ ci, 6 ≤ ci → ci ≤ 10 → Cond.arrayOver (.object (am_cnm ci)) ∈ lw_tbl := by
  intro ci h1 h2
  match ci, h1, h2 with
  | 6, _, _ => exact am_tin (p := 206) (by decide +kernel)
  | 7, _, _ => exact am_tin (p := 106) (by decide +kernel)
  | 8, _, _ => exact am_tin (p := 54) (by decide +kernel)
  | 9, _, _ => exact am_tin (p := 56) (by decide +kernel)
  | 10, _, _ => exact am_tin (p := 58) (by decide +kernel)
  | 0, h1, _ => omega
  | 1, h1, _ => omega
  | 2, h1, _ => omega
  | 3, h1, _ => omega
  | 4, h1, _ => omega
  | 5, h1, _ => omega
  | ci + 11, _, h2 => omega
theorem am_arrT {s : State} {cA : ClassId} {kA : Class} {comp : ClassId} {t : FieldType} (h1 : s.vm.classes[cA]? = some kA) (h2 : kA.kind = .array comp t) : ArrOfT s cA t := fun n z => ⟨fun k h => (by cases h), kA, h1, comp, h2⟩
theorem am_arrs {s : State} {a : Array Value} (hts : ∀ w ∈ lw_tbl, w.before a s = true) : ∀ kd, am_okA kd → ∃ cA, ArrOfT s cA (am_at kd) ∧ s.vm.findClass ("[" ++ (am_at kd).toString) = some cA := by
  intro kd hk9
  have prim : ∀ t : FieldType, Cond.arrayClass t ∈ lw_tbl → (FieldType.array t).toString = "[" ++ t.toString → ∃ cA, ArrOfT s cA t ∧ s.vm.findClass ("[" ++ t.toString) = some cA := by
    intro t ht e
    obtain ⟨c, k, cc, h1, h2, h3⟩ := Cond.arrayClass_spec (hts _ ht)
    exact ⟨c, am_arrT h2 h3, by rw [← e]; exact h1⟩
  have hT : ∀ w ∈ am_T, w ∈ lw_tbl := fun w hw => (List.mem_filter.mp hw).1
  unfold am_okA at hk9
  rcases hk9 with rfl | rfl | rfl | rfl | ⟨h1, h2⟩
  · exact prim .int (hT _ am_wI) rfl
  · exact prim .boolean (hT _ am_wZ) rfl
  · exact prim .long (hT _ am_wJ) rfl
  · obtain ⟨comp, cA, kA, -, -, h2, h3, h4⟩ := arrayOverA_spec (hts _ am_ao)
    exact ⟨cA, am_arrT h2 h3, h4⟩
  · have e : am_at kd = .object (am_cnm (kd - 110)) := by
      unfold am_at
      rw [if_neg (by omega), if_neg (by omega), if_neg (by omega), if_neg (by omega)]
    obtain ⟨comp, cA, kA, -, -, h2, h3, h4⟩ := Cond.arrayOver_spec (hts _ (am_aoC (kd - 110) (by omega) (by omega)))
    rw [e]
    exact ⟨cA, am_arrT h2 h3, h4⟩
/-- all that the tables know stands at the law's entry -/
theorem am_KS0 {s : State} {b L : Nat} {xs : Nat → Int32} (hts : ∀ w ∈ lw_tbl, w.before #[Value.ref b] s = true) (hX : va_X b L xs s s.heap) (hbl : b < s.heap.size) (hgv : (Jvm.Cond.and given_1 narrow_1).before #[Value.ref b] s = true) : ∃ g : am_G, KS g s ∧ gB g = s.heap.size ∧ gb g = b ∧ gH g = s.heap ∧ gL g = L ∧ gX g = xs := by
  have hT : ∀ w ∈ am_T, w.before #[Value.ref b] s = true := fun w hw => hts w (List.mem_filter.mp hw).1
  have hfl : ∀ w ∈ am_flat, w.before #[Value.ref b] s = true := flat_of_before _ hgv
  have h1 : ∀ ci : Nat, ∃ q : ClassId × (Nat → Nat), ∀ x : vw_C, am_cl[ci]? = some x → u_Kn s x.1 x.2.1 x.2.2 q.1 q.2 := by
    intro ci
    cases hx : am_cl[ci]? with
    | none => exact ⟨(0, fun _ => 0), fun x h => by cases h⟩
    | some x =>
      obtain ⟨c1, c2, c3, c4, c5, c6, c7, c8, c9⟩ := am_cokA hx
      obtain ⟨cC, iS, hK⟩ := u_known hT c2 (hT _ c7)
      exact ⟨(cC, iS), fun y hy => by cases hy; exact hK⟩
  obtain ⟨fC, hC⟩ := Classical.axiomOfChoice h1
  have h2 : ∀ kd, ∃ cA, am_okA kd → ArrOfT s cA (am_at kd) ∧ s.vm.findClass ("[" ++ (am_at kd).toString) = some cA := by
    intro kd
    by_cases q : am_okA kd
    · obtain ⟨cA, h⟩ := am_arrs hts kd q
      exact ⟨cA, fun _ => h⟩
    · exact ⟨0, fun z => absurd z q⟩
  obtain ⟨fA, hA⟩ := Classical.axiomOfChoice h2
  have hnot : ∀ a : Nat, a < s.heap.size → ¬ (fun q : Nat => s.heap.size ≤ q) a := fun a ha h => absurd ha (Nat.not_lt.mpr h)
  obtain ⟨adK, adV, hS, hadK⟩ := vk_Sof (N := 14) (tm := am_trm) (len := am_sl) (byt := am_sb) (A := fun q : Nat => s.heap.size ≤ q) (args := #[Value.ref b]) (s := s) (by decide +kernel) (fun i hi => hfl _ (am_f1 i hi)) (fun i hi => hfl _ (am_f2 i hi)) (fun i hi => hfl _ (am_f3 i hi)) (fun i hi => hfl _ (am_f4 i hi)) (fun i hi j hj => hfl _ (am_f5 i hi j hj)) (fun i j hi hj hij => by
    rcases am_f6 i hi j hj hij with h | h
    · exact Or.inl (hfl _ h)
    · exact Or.inr (hfl _ h)) hnot
  refine ⟨(s.heap.size, b, fun ci => (fC ci).1, fun ci => (fC ci).2, fA, adK, adV, s.heap, L, xs), ⟨fun ci q hq => hC ci q hq, fun kd hk9 => hA kd hk9, ⟨fun ci a1 a2 => va_AO.of (hts _ (am_aoC ci a1 a2)), over_moved (Vm.Alike.refl _) (hts _ am_ao)⟩, fun a i x h hm => va_Nw.of rfl (hts _ (List.mem_append_right _ hm)), ⟨fun i q hq => ?_, hS⟩, ⟨va_Zof (hts _ am_lsC) (hT _ am_wS3) (va_eqi (hfl _ am_f7)) hnot, va_Zqof (hts _ am_lsF) (hT _ am_wP3) (hfl _ am_f8) hnot⟩, hX, hbl, rfl⟩, rfl, rfl, rfl, rfl, rfl⟩
  have hi : i < 14 := (List.getElem?_eq_some_iff.mp hq).1
  have ht : (am_trm i).eval #[Value.ref b] s none [] s = some (.ref (adK i)) := hadK i hi
  have et : am_trm i = .string q.1 q.2.1 := by
    unfold am_trm
    rw [List.getD_eq_getElem?_getD, hq]
    rfl
  rw [et] at ht
  exact vk_R.of (hts _ (am_s1 i hi q hq)) ht
/-- the heap with which the law begins: the script and the literals alone -/
def am_h0 (L : Nat) (xs : Nat → Int32) : am_H := ((0, 0), (fun n => if n = 0 then 901 else if 1000000 ≤ n ∧ n < 1000028 then (if n % 2 = 0 then 902 else 903) else 999), (fun n => if n = 0 then L else am_sl.getD ((n - 1000001) / 2) 0), (fun n j => if n = 0 then xs j else if n % 2 = 0 then 0 else (am_sb.getD ((n - 1000001) / 2) []).getD j 0), (fun _ _ => 0), (fun n _ => some (n + 1)))
theorem am_rel0 {g : am_G} (hz : (gH g).size = gB g) : RelH g (am_h0 (gL g) (gX g)) (gH g) := by
  have ek : ∀ n, hkd (am_h0 (gL g) (gX g)) n = if n = 0 then 901 else if 1000000 ≤ n ∧ n < 1000028 then (if n % 2 = 0 then 902 else 903) else 999 := fun _ => rfl
  refine ⟨hz, by show 0 < 1000000; omega, fun _ _ => rfl, fun n n1 n2 => ?_, fun n hn => ?_, fun n hn => ?_, fun n hn => ?_, fun n hn => ?_⟩
  · have : n ≤ 0 := n2
    omega
  · rw [ek] at hn
    split at hn
    · omega
    · split at hn
      · split at hn <;> omega
      · omega
  · rw [ek] at hn
    by_cases e : n = 0
    · subst e
      exact ⟨rfl, rfl, fun _ => rfl⟩
    · rw [if_neg e] at hn
      split at hn
      · split at hn <;> omega
      · omega
  · rw [ek] at hn
    by_cases e : n = 0
    · rw [if_pos e] at hn; omega
    · rw [if_neg e] at hn
      split at hn
      · split at hn
        · rename_i q1 q2
          refine ⟨(n - 1000000) / 2, by omega, by omega, ?_, ?_⟩
          · show some (n + 1) = some _
            congr 1
            omega
          · show (if n = 0 then _ else if n % 2 = 0 then (0 : Int32) else _) = 0
            rw [if_neg e, if_pos q2]
        · omega
      · omega
  · rw [ek] at hn
    by_cases e : n = 0
    · rw [if_pos e] at hn; omega
    · rw [if_neg e] at hn
      split at hn
      · split at hn
        · omega
        · rename_i q1 q2
          refine ⟨(n - 1000001) / 2, by omega, by omega, ?_, fun j hj => ?_⟩
          · show (if n = 0 then _ else _) = _
            rw [if_neg e]
          · show (if n = 0 then _ else if n % 2 = 0 then (0 : Int32) else _) = _
            rw [if_neg e, if_neg q2]
      · omega
