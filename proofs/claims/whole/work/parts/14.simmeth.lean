/-! the table of the methods, row by row -/
theorem am_allget {f : am_MR → Bool} {a j : Nat} {d : am_MR} (h : ((am_mt.drop a).take 20).all f = true) (h1 : a ≤ j) (h2 : j < a + 20) (h3 : j < am_mt.length) : f (am_mt.getD j d) = true := by
  have e : ((am_mt.drop a).take 20)[j - a]? = some (am_mt.getD j d) := by
    rw [List.getElem?_take, if_pos (by omega), List.getElem?_drop, show a + (j - a) = j by omega, List.getD_eq_getElem?_getD, List.getElem?_eq_getElem h3]
    rfl
  exact List.all_eq_true.mp h _ (List.mem_of_getElem? e)
theorem am_mlen : am_mt.length = am_nm := by decide +kernel
theorem am_ckA {j : Nat} (h1 : 1 ≤ j) (h2 : j < am_nm) : am_ck (am_m j) = true := by
  have h3 : j < am_mt.length := by rw [am_mlen]; exact h2
  have h2 : j < 229 := h2
  by_cases q0 : j < 20
  · exact List.all_eq_true.mp am_ck0 _ (List.mem_of_getElem? (i := j - 1) (by rw [List.getElem?_take, if_pos (by omega), List.getElem?_drop, show 1 + (j - 1) = j by omega]; unfold am_m; rw [List.getD_eq_getElem?_getD, List.getElem?_eq_getElem h3]; rfl))
  by_cases q20 : j < 40
  · exact am_allget am_ck1 (by omega) (by omega) h3
  by_cases q40 : j < 60
  · exact am_allget am_ck2 (by omega) (by omega) h3
  by_cases q60 : j < 80
  · exact am_allget am_ck3 (by omega) (by omega) h3
  by_cases q80 : j < 100
  · exact am_allget am_ck4 (by omega) (by omega) h3
  by_cases q100 : j < 120
  · exact am_allget am_ck5 (by omega) (by omega) h3
  by_cases q120 : j < 140
  · exact am_allget am_ck6 (by omega) (by omega) h3
  by_cases q140 : j < 160
  · exact am_allget am_ck7 (by omega) (by omega) h3
  by_cases q160 : j < 180
  · exact am_allget am_ck8 (by omega) (by omega) h3
  by_cases q180 : j < 200
  · exact am_allget am_ck9 (by omega) (by omega) h3
  by_cases q200 : j < 220
  · exact am_allget am_ck10 (by omega) (by omega) h3
  exact am_allget am_ck11 (by omega) (by omega) h3
theorem am_cdA {j : Nat} (h1 : 1 ≤ j) (h2 : j < am_nm) : am_cd (am_m j) = true := by
  have h3 : j < am_mt.length := by rw [am_mlen]; exact h2
  have h2 : j < 229 := h2
  by_cases q0 : j < 20
  · exact List.all_eq_true.mp am_cd0 _ (List.mem_of_getElem? (i := j - 1) (by rw [List.getElem?_take, if_pos (by omega), List.getElem?_drop, show 1 + (j - 1) = j by omega]; unfold am_m; rw [List.getD_eq_getElem?_getD, List.getElem?_eq_getElem h3]; rfl))
  by_cases q20 : j < 40
  · exact am_allget am_cd1 (by omega) (by omega) h3
  by_cases q40 : j < 60
  · exact am_allget am_cd2 (by omega) (by omega) h3
  by_cases q60 : j < 80
  · exact am_allget am_cd3 (by omega) (by omega) h3
  by_cases q80 : j < 100
  · exact am_allget am_cd4 (by omega) (by omega) h3
  by_cases q100 : j < 120
  · exact am_allget am_cd5 (by omega) (by omega) h3
  by_cases q120 : j < 140
  · exact am_allget am_cd6 (by omega) (by omega) h3
  by_cases q140 : j < 160
  · exact am_allget am_cd7 (by omega) (by omega) h3
  by_cases q160 : j < 180
  · exact am_allget am_cd8 (by omega) (by omega) h3
  by_cases q180 : j < 200
  · exact am_allget am_cd9 (by omega) (by omega) h3
  by_cases q200 : j < 220
  · exact am_allget am_cd10 (by omega) (by omega) h3
  exact am_allget am_cd11 (by omega) (by omega) h3
def am_wsj (j : Nat) : List Cond := Cond.code (am_y j) (am_b j) (am_ml j) (am_rt j) :: am_T
/-- what the words say of a method -/
theorem am_mOK {j : Nat} (h1 : 1 ≤ j) (h2 : j < am_nm) : Cond.code (am_y j) (am_b j) (am_ml j) (am_rt j) ∈ am_T ∧ Cond.initialized (am_y j).cls ∈ am_T ∧ (am_st j = 1 → Cond.static (am_y j) ∈ am_T) ∧ (am_st j ≠ 1 → Cond.instanceMethod (am_y j) ∈ am_T) ∧ (am_st j ≠ 1 → (am_y j).name ≠ "<init>" → Cond.selects (am_y j).cls (am_y j) (am_y j) ∈ am_T) ∧ plainName (am_y j).cls = true ∧ ((am_y j).cls ≠ "java/lang/invoke/MethodHandle" ∧ (am_y j).cls ≠ "java/lang/invoke/VarHandle") ∧ am_ml j ≤ 40 ∧ (∀ sig, parseMethodDescriptor (am_y j).desc = some sig → am_np j = sig.parameters.length) ∧ ((am_mc j < 99 → (am_cl[am_mc j]?).map (fun q => q.1) = some (am_y j).cls) ∧ (am_mc j = 902 → (am_y j).cls = "java/lang/String") ∧ (am_mc j < 99 ∨ am_mc j = 902 ∨ am_st j = 1)) := by
  obtain ⟨q, hq⟩ := am_cw j h1 h2
  have hk := am_ckA h1 h2
  have hc := am_cdA h1 h2
  unfold am_y am_b am_ml am_rt am_st am_mc am_np at *
  generalize am_m j = r at *
  obtain ⟨y, b, ml, ret, ci, st, np, q0, q1, q2, q3⟩ := r
  simp only [am_ck, am_cd, Bool.and_eq_true, decide_eq_true_eq] at hk hc hq ⊢
  obtain ⟨⟨⟨⟨⟨⟨k1, k2⟩, k3⟩, k4⟩, k5⟩, k6⟩, k7⟩ := hk
  refine ⟨am_in hq rfl, am_in k1 rfl, fun e => ?_, fun e => ?_, fun e e2 => ?_, k4, k5, k6, fun sig hs9 => ?_, fun e => ?_, fun e => ?_, ?_⟩
  · rw [if_pos e, decide_eq_true_eq] at k2
    exact am_in k2 rfl
  · rw [if_neg e, decide_eq_true_eq] at k2
    exact am_in k2 rfl
  · rw [if_neg (fun z => z.elim e e2)] at k3
    split at k3
    · rw [decide_eq_true_eq] at k3
      exact am_in k3 rfl
    · rw [decide_eq_true_eq, Option.map_eq_some_iff] at k3
      obtain ⟨a, a1, a2⟩ := k3
      have := am_inS a1
      rw [a2] at this
      exact this
  · have h3 := hc.1
    rw [hs9] at h3
    exact (Option.some.inj h3).symm
  · rw [if_pos e, decide_eq_true_eq] at k7
    exact k7
  · rw [if_neg (by omega), if_pos e, decide_eq_true_eq] at k7
    exact k7
  · by_cases e : ci < 99
    · exact Or.inl e
    · rw [if_neg e] at k7
      by_cases e2 : ci = 902
      · exact Or.inr (Or.inl e2)
      · rw [if_neg e2, decide_eq_true_eq] at k7
        exact Or.inr (Or.inr k7)
theorem am_wO : Cond.instanceMethod Lib.objectInit ∈ am_T := am_in (p := 28) (by decide +kernel) rfl
theorem am_wO2 : Cond.code Lib.objectInit ⟨#[0xb1]⟩ 1 none ∈ am_T := am_in (p := 29) (by decide +kernel) rfl
theorem am_wC1 : Cond.native arraycopyName ∈ am_T := am_in (p := 442) (by decide +kernel) rfl
theorem am_wC2 : Cond.static arraycopyName ∈ am_T := am_in (p := 441) (by decide +kernel) rfl
theorem am_wC3 : Cond.initialized "java/lang/System" ∈ am_T := am_in (p := 15) (by decide +kernel) rfl
theorem am_wM0 : Cond.initialized "java/lang/Math" ∈ am_T := am_in (p := 12) (by decide +kernel) rfl
theorem am_wM_max : Cond.static Lib.Math.max.name ∈ am_T := am_in (p := 348) (by decide +kernel) rfl
theorem am_wMc_max : Cond.code Lib.Math.max.name Lib.Math.max.code 2 (some .int) ∈ am_T := am_in (p := 349) (by decide +kernel) rfl
theorem am_wM_min : Cond.static Lib.Math.min.name ∈ am_T := am_in (p := 351) (by decide +kernel) rfl
theorem am_wMc_min : Cond.code Lib.Math.min.name Lib.Math.min.code 2 (some .int) ∈ am_T := am_in (p := 352) (by decide +kernel) rfl
theorem am_wM_abs : Cond.static Lib.Math.abs.name ∈ am_T := am_in (p := 778) (by decide +kernel) rfl
theorem am_wMc_abs : Cond.code Lib.Math.abs.name Lib.Math.abs.code 1 (some .int) ∈ am_T := am_in (p := 779) (by decide +kernel) rfl
def am_yS : MethodName := ⟨"java/lang/String", "checkIndex", "(II)V"⟩
def am_yP : MethodName := ⟨"jdk/internal/util/Preconditions", "checkIndex", "(IILjava/util/function/BiFunction;)I"⟩
theorem am_wS1 : Cond.code am_yS prog_18_method_155_code 2 none ∈ am_T := am_in (p := 253) (by decide +kernel) rfl
theorem am_wS2 : Cond.static am_yS ∈ am_T := am_in (p := 252) (by decide +kernel) rfl
theorem am_wS3 : Cond.initialized "java/lang/String" ∈ am_T := am_in (p := 8) (by decide +kernel) rfl
theorem am_wP1 : Cond.code am_yP prog_22_method_11_code 3 (some .int) ∈ am_T := am_in (p := 258) (by decide +kernel) rfl
theorem am_wP2 : Cond.static am_yP ∈ am_T := am_in (p := 257) (by decide +kernel) rfl
theorem am_wP3 : Cond.initialized "jdk/internal/util/Preconditions" ∈ am_T := am_in (p := 10) (by decide +kernel) rfl
theorem am_wS4 : Cond.fieldLink "java/lang/String" 1053 "jdk/internal/util/Preconditions" "SIOOBE_FORMATTER" "Ljava/util/function/BiFunction;" ∈ am_T := am_in (p := 254) (by decide +kernel) rfl
theorem am_wS5 : Cond.methodLink "java/lang/String" 1059 am_yP ∈ am_T := am_in (p := 256) (by decide +kernel) rfl
theorem am_dS0 : decode prog_18_method_155_code 0 = .ok (.iload_n 0, 1) := by decide +kernel
theorem am_dS1 : decode prog_18_method_155_code 1 = .ok (.iload_n 1, 1) := by decide +kernel
theorem am_dS2 : decode prog_18_method_155_code 2 = .ok (.getstatic 1053, 3) := by decide +kernel
theorem am_dS5 : decode prog_18_method_155_code 5 = .ok (.invokestatic 1059, 3) := by decide +kernel
theorem am_dS8 : decode prog_18_method_155_code 8 = .ok (.pop, 1) := by decide +kernel
theorem am_dS9 : decode prog_18_method_155_code 9 = .ok (.return_, 1) := by decide +kernel
theorem am_dP0 : decode prog_22_method_11_code 0 = .ok (.iload_n 0, 1) := by decide +kernel
theorem am_dP1 : decode prog_22_method_11_code 1 = .ok (.ifCond .lt 8, 3) := by decide +kernel
theorem am_dP4 : decode prog_22_method_11_code 4 = .ok (.iload_n 0, 1) := by decide +kernel
theorem am_dP5 : decode prog_22_method_11_code 5 = .ok (.iload_n 1, 1) := by decide +kernel
theorem am_dP6 : decode prog_22_method_11_code 6 = .ok (.if_icmp .lt 10, 3) := by decide +kernel
theorem am_dP16 : decode prog_22_method_11_code 16 = .ok (.iload_n 0, 1) := by decide +kernel
theorem am_dP17 : decode prog_22_method_11_code 17 = .ok (.ireturn, 1) := by decide +kernel
