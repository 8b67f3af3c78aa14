/-! the class tables in one row -/
def am_fok (ci k : Nat) : Prop := (am_ft ci k = 0 ∧ am_ty ci k = .int) ∨ (am_ft ci k = 3 ∧ am_ty ci k = .boolean) ∨ (am_ft ci k = 1 ∧ am_ty ci k = .long) ∨ (am_ft ci k = 2 ∧ (am_ty ci k).isReference = true)
def am_cok (ci : Nat) (q : vw_C) : Prop := ci < 12 ∧ (∀ w ∈ u_ws q.1 q.2.1 q.2.2, w ∈ am_T) ∧ (∀ k, k < q.2.2 → parseFieldDescriptor (q.2.1 k).2.2.1 = some (am_ty ci k)) ∧ (∀ a, a < q.2.2 → ∀ b, b < q.2.2 → a ≠ b → (q.2.1 a).2.1 ≠ (q.2.1 b).2.1) ∧ (∀ k, k < q.2.2 → am_fok ci k) ∧ (am_ftl.getD ci []).length = q.2.2 ∧ Cond.instantiable q.1 q.2.2 ∈ am_T ∧ Cond.initialized q.1 ∈ am_T ∧ am_cnm ci = q.1
theorem am_fo0 : ∀ k, k < 20 → am_fok 0 k := by unfold am_fok; decide +kernel
theorem am_co0 : am_cok 0 ("DrumWorld", am_F0, 20) := ⟨by decide, am_i0, am_p0, am_n0, am_fo0, rfl, am_in (p := 23) (by decide +kernel) rfl, am_in (p := 1) (by decide +kernel) rfl, rfl⟩
theorem am_fo1 : ∀ k, k < 3 → am_fok 1 k := by unfold am_fok; decide +kernel
theorem am_co1 : am_cok 1 ("DrumWorld$Ball", am_F1, 3) := ⟨by decide, am_i1, am_p1, am_n1, am_fo1, rfl, am_in (p := 31) (by decide +kernel) rfl, am_in (p := 2) (by decide +kernel) rfl, rfl⟩
theorem am_fo2 : ∀ k, k < 4 → am_fok 2 k := by unfold am_fok; decide +kernel
theorem am_co2 : am_cok 2 ("DrumWorld$Reader", am_F2, 4) := ⟨by decide, am_i2, am_p2, am_n2, am_fo2, rfl, am_in (p := 60) (by decide +kernel) rfl, am_in (p := 3) (by decide +kernel) rfl, rfl⟩
theorem am_fo3 : ∀ k, k < 5 → am_fok 3 k := by unfold am_fok; decide +kernel
theorem am_co3 : am_cok 3 ("DrumWorld$Tape", am_F3, 5) := ⟨by decide, am_i3, am_p3, am_n3, am_fo3, rfl, am_in (p := 66) (by decide +kernel) rfl, am_in (p := 4) (by decide +kernel) rfl, rfl⟩
theorem am_fo4 : ∀ k, k < 13 → am_fok 4 k := by unfold am_fok; decide +kernel
theorem am_co4 : am_cok 4 ("DrumWorld$Placing", am_F4, 13) := ⟨by decide, am_i4, am_p4, am_n4, am_fo4, rfl, am_in (p := 108) (by decide +kernel) rfl, am_in (p := 5) (by decide +kernel) rfl, rfl⟩
theorem am_fo5 : ∀ k, k < 11 → am_fok 5 k := by unfold am_fok; decide +kernel
theorem am_co5 : am_cok 5 ("DrumWorld$Image", am_F5, 11) := ⟨by decide, am_i5, am_p5, am_n5, am_fo5, rfl, am_in (p := 161) (by decide +kernel) rfl, am_in (p := 6) (by decide +kernel) rfl, rfl⟩
theorem am_fo6 : ∀ k, k < 3 → am_fok 6 k := by unfold am_fok; decide +kernel
theorem am_co6 : am_cok 6 ("DrumWorld$Sheet", am_F6, 3) := ⟨by decide, am_i6, am_p6, am_n6, am_fo6, rfl, am_in (p := 207) (by decide +kernel) rfl, am_in (p := 7) (by decide +kernel) rfl, rfl⟩
theorem am_fo7 : ∀ k, k < 4 → am_fok 7 k := by unfold am_fok; decide +kernel
theorem am_co7 : am_cok 7 ("DrumWorld$Text", am_F7, 4) := ⟨by decide, am_i7, am_p7, am_n7, am_fo7, rfl, am_in (p := 435) (by decide +kernel) rfl, am_in (p := 14) (by decide +kernel) rfl, rfl⟩
theorem am_fo8 : ∀ k, k < 4 → am_fok 8 k := by unfold am_fok; decide +kernel
theorem am_co8 : am_cok 8 ("DrumWorld$Drum", am_F8, 4) := ⟨by decide, am_i8, am_p8, am_n8, am_fo8, rfl, am_in (p := 617) (by decide +kernel) rfl, am_in (p := 18) (by decide +kernel) rfl, rfl⟩
theorem am_fo9 : ∀ k, k < 4 → am_fok 9 k := by unfold am_fok; decide +kernel
theorem am_co9 : am_cok 9 ("DrumWorld$Shake", am_F9, 4) := ⟨by decide, am_i9, am_p9, am_n9, am_fo9, rfl, am_in (p := 659) (by decide +kernel) rfl, am_in (p := 19) (by decide +kernel) rfl, rfl⟩
theorem am_fo10 : ∀ k, k < 9 → am_fok 10 k := by unfold am_fok; decide +kernel
theorem am_co10 : am_cok 10 ("DrumWorld$Card", am_F10, 9) := ⟨by decide, am_i10, am_p10, am_n10, am_fo10, rfl, am_in (p := 698) (by decide +kernel) rfl, am_in (p := 20) (by decide +kernel) rfl, rfl⟩
theorem am_fo11 : ∀ k, k < 61 → am_fok 11 k := by unfold am_fok; decide +kernel
theorem am_co11 : am_cok 11 ("DrumWorldModel", am_F11, 61) := ⟨by decide, am_i11, am_p11, am_n11, am_fo11, rfl, am_in (p := 1066) (by decide +kernel) rfl, am_in (p := 16) (by decide +kernel) rfl, rfl⟩
theorem am_cokA {ci : Nat} {q : vw_C} (h : am_cl[ci]? = some q) : am_cok ci q := by
  match ci, h with
  | 0, h => cases h; exact am_co0
  | 1, h => cases h; exact am_co1
  | 2, h => cases h; exact am_co2
  | 3, h => cases h; exact am_co3
  | 4, h => cases h; exact am_co4
  | 5, h => cases h; exact am_co5
  | 6, h => cases h; exact am_co6
  | 7, h => cases h; exact am_co7
  | 8, h => cases h; exact am_co8
  | 9, h => cases h; exact am_co9
  | 10, h => cases h; exact am_co10
  | 11, h => cases h; exact am_co11
  | ci + 12, h => simp [am_cl] at h
theorem am_wI : Cond.arrayClass .int ∈ am_T := am_in (p := 52) (by decide +kernel) rfl
theorem am_wZ : Cond.arrayClass .boolean ∈ am_T := am_in (p := 159) (by decide +kernel) rfl
theorem am_wJ : Cond.arrayClass .long ∈ am_T := am_in (p := 1273) (by decide +kernel) rfl
/-- what holds all along a method's body -/
def am_Cc (g : am_G) (M : Nat) (p : Program) (s : State) (m : MethodId) (args : Array Value) (meth : Method) (c : Code) : Prop := p.tables.exec = Jvm.exec ∧ c.code = am_b M ∧ c.maxLocals = am_ml M ∧ s.vm.findClass (am_cn M) = some m.cls ∧ (∀ w ∈ am_T, w.before args s = true) ∧ KS g s ∧ meth.sig.returnType = am_rt M ∧ meth.locks = false ∧ ((am_y M).name = "<init>" → meth.name = "<init>") ∧ gB g ≤ s.heap.size
theorem am_cell.kept {g : am_G} {h h' : am_H} {n : Nat} {H H' : Heap} (hc : am_cell g h n H) (e2 : hkd h' n = hkd h n) (e3 : hln h' n = hln h n) (e4 : hI h' n = hI h n) (e5 : hL h' n = hL h n) (e6 : hR h' n = hR h n) (oq : H'[gB g + (n - 1)]? = H[gB g + (n - 1)]?) : am_cell g h' n H' := by
  have ef : am_fv g h' n = am_fv g h n := by funext k; unfold am_fv; rw [e2, e4, e5, e6]
  have ea : am_av g h' n = am_av g h n := by funext k; unfold am_av; rw [e2, e4, e5, e6]
  unfold am_cell
  rw [e2, e3, ef, ea]
  refine ⟨fun q => ?_, fun q => ?_⟩
  · obtain ⟨r, h1, h2⟩ := hc.1 q
    exact ⟨r, h1, h2.kept oq⟩
  · obtain ⟨h1, h2⟩ := hc.2 q
    exact ⟨h1, oq.trans h2⟩
/-- one cell of ours is written -/
theorem RelH.upd {g : am_G} {h h' : am_H} {H H' : Heap} {n : Nat} (hr : RelH g h H) (hn : hkd h n < 900) (e1 : hk h' = hk h) (e2 : hkd h' = hkd h) (e3 : hln h' = hln h) (e4 : ∀ a, a ≠ n → hI h' a = hI h a ∧ hL h' a = hL h a ∧ hR h' a = hR h a) (z : H'.size = H.size) (oq : ∀ q, q ≠ gB g + (n - 1) → H'[q]? = H[q]?) (hc : am_cell g h' n H') : RelH g h' H' := by
  obtain ⟨a1, a2, a3, a4, a5, b1, b2, b3⟩ := hr
  obtain ⟨n1, n2⟩ := a5 n hn
  refine ⟨by rw [z, a1, e1], by rw [e1]; exact a2, fun q hq => by rw [oq q (by omega)]; exact a3 q hq, fun k k1 k2 => ?_, by rw [e2, e1]; exact a5, ?_, ?_, ?_⟩
  · by_cases e : k = n
    · rw [e]; exact hc
    · obtain ⟨f1, f2, f3⟩ := e4 k e
      exact (a4 k k1 (by rw [← e1]; exact k2)).kept (by rw [e2]) (by rw [e3]) f1 f2 f3 (oq _ (by omega))
  · intro k hk9
    rw [e2] at hk9
    have ne : k ≠ n := fun q => by rw [← q] at hn; omega
    rw [e3, (e4 k ne).1]
    exact b1 k hk9
  · intro k hk9
    rw [e2] at hk9
    have ne : k ≠ n := fun q => by rw [← q] at hn; omega
    rw [(e4 k ne).1, (e4 k ne).2.2]
    exact b2 k hk9
  · intro k hk9
    rw [e2] at hk9
    have ne : k ≠ n := fun q => by rw [← q] at hn; omega
    rw [e3, (e4 k ne).1]
    exact b3 k hk9
/-- a cell more -/
theorem RelH.new {g : am_G} {h : am_H} {H H' : Heap} {kd ln sl : Nat} (hr : RelH g h H) (hk9 : hk h < 900000) (hkd9 : kd < 900) (z : H'.size = H.size + 1) (oq : ∀ q, q < H.size → H'[q]? = H[q]?) (hc : am_cell g (newc h kd ln sl) (hk h + 1) H') : RelH g (newc h kd ln sl) H' := by
  obtain ⟨a1, a2, a3, a4, a5, b1, b2, b3⟩ := hr
  have nk : ∀ k, k ≠ hk h + 1 → hkd (newc h kd ln sl) k = hkd h k ∧ hln (newc h kd ln sl) k = hln h k ∧ hI (newc h kd ln sl) k = hI h k ∧ hL (newc h kd ln sl) k = hL h k ∧ hR (newc h kd ln sl) k = hR h k := fun k hk => ⟨if_neg hk, if_neg hk, by funext j; exact if_neg hk, by funext j; exact if_neg hk, by funext j; exact if_neg hk⟩
  have nk1 : hkd (newc h kd ln sl) (hk h + 1) = kd := if_pos rfl
  refine ⟨by rw [z, a1]; rfl, ?_, fun q hq => ?_, fun k k1 k2 => ?_, fun k hk9 => ?_, fun k hk9 => ?_, fun k hk9 => ?_, fun k hk9 => ?_⟩
  · show hk h + 1 < 1000000; omega
  · rw [oq q (by omega)]; exact a3 q hq
  · by_cases e : k = hk h + 1
    · rw [e]; exact hc
    · obtain ⟨f1, f2, f3, f4, f5⟩ := nk k e
      have k2' : k ≤ hk h + 1 := k2
      exact (a4 k k1 (by omega)).kept f1 f2 f3 f4 f5 (oq _ (by omega))
  · show 1 ≤ k ∧ k ≤ hk h + 1
    by_cases e : k = hk h + 1
    · omega
    · rw [(nk k e).1] at hk9
      have := a5 k hk9
      omega
  · have e : k ≠ hk h + 1 := fun q => by rw [q, nk1] at hk9; omega
    obtain ⟨f1, f2, f3, f4, f5⟩ := nk k e
    rw [f1] at hk9
    rw [f2, f3]
    exact b1 k hk9
  · have e : k ≠ hk h + 1 := fun q => by rw [q, nk1] at hk9; omega
    obtain ⟨f1, f2, f3, f4, f5⟩ := nk k e
    rw [f1] at hk9
    rw [f3, f5]
    exact b2 k hk9
  · have e : k ≠ hk h + 1 := fun q => by rw [q, nk1] at hk9; omega
    obtain ⟨f1, f2, f3, f4, f5⟩ := nk k e
    rw [f1] at hk9
    rw [f2, f3]
    exact b3 k hk9
/-- an own cell's address -/
theorem am_roO {g : am_G} {h : am_H} {H : Heap} {n : Nat} (hr : RelH g h H) (hn : hkd h n < 900) : am_ro g n = gB g + (n - 1) ∧ 1 ≤ n ∧ n ≤ hk h := by
  obtain ⟨n1, n2⟩ := hr.2.2.2.2.1 n hn
  have := hr.2.1
  refine ⟨?_, n1, n2⟩
  unfold am_ro
  rw [if_neg (by omega), if_pos (by omega)]
