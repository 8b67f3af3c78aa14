/-! cell -/
def putF (so v : Int32) : Int32 := if so = 0 then (Int32.toInt8 v).toInt32 else if so = 1 then (Int32.toInt16 v).toInt32 else v
section CELL
variable {d : Nat} {h : am_H}
theorem c_isMissing {n : Nat} (K : hkd h n = 6) : Cl (d + 4) 115 [vr (some n)] h = some (some (vi (bI (hI h n 1 = -1))), h) := by
  simp (decide := true) (disch := (first | assumption | (simp only [Sh_setI, Sm_setI, Sh_setL, Sm_setL]; assumption) | omega)) only [E_115, B_115_0, B_115_8, B_115_12, B_115_13, ne1_0, bI_True, bI_False, p_max, p_min, p_abs, Option.bind_some, Option.bind_none, Option.toList_some, Option.toList_none, List.cons_append, List.nil_append, bI_eq0, bI_ne0, bI_ne1, bI_eq1, bI_01, eq_self, true_or, or_true, and_true, true_and, false_and, and_false, false_or, or_false, ite_true, ite_false, if_true, if_false, not_true, not_false_iff, Classical.not_not, nem, ite_not, ne_eq]
  by_cases a : hI h n 1 = -1
  · rw [if_pos a, bI_T a]
  · rw [if_neg a, bI_F a]
theorem c_holds {n : Nat} (K : hkd h n = 6) {i k : Int32} : Cl (d + 4) 138 [vr (some n), vi i, vi k] h = some (some (vi (bI (0 ≤ i ∧ 0 ≤ k ∧ k ≤ hI h n 2 ∧ i ≤ hI h n 2 - k))), h) := by
  simp (decide := true) (disch := (first | assumption | (simp only [Sh_setI, Sm_setI, Sh_setL, Sm_setL]; assumption) | omega)) only [E_138, B_138_0, B_138_4, B_138_8, B_138_16, B_138_26, B_138_30, B_138_31, ne1_0, bI_True, bI_False, p_max, p_min, p_abs, Option.bind_some, Option.bind_none, Option.toList_some, Option.toList_none, List.cons_append, List.nil_append, bI_eq0, bI_ne0, bI_ne1, bI_eq1, bI_01, eq_self, true_or, or_true, and_true, true_and, false_and, and_false, false_or, or_false, ite_true, ite_false, if_true, if_false, not_true, not_false_iff, Classical.not_not, nem, ite_not, ne_eq]
  by_cases a : i < 0
  · rw [if_pos a, bI_F (by rw [← nt_lt] at a; exact fun w => a w.1)]
  · rw [if_neg a]
    rw [nt_le] at a
    by_cases b : k < 0
    · rw [if_pos b, bI_F (by rw [← nt_lt] at b; exact fun w => b w.2.1)]
    · rw [if_neg b]
      rw [nt_le] at b
      by_cases c : hI h n 2 < k
      · rw [if_pos c, bI_F (by rw [← nt_lt] at c; exact fun w => c w.2.2.1)]
      · rw [if_neg c]
        rw [nt_le] at c
        by_cases e : hI h n 2 - k < i
        · rw [if_pos e, bI_F (by rw [← nt_lt] at e; exact fun w => e w.2.2.2)]
        · rw [if_neg e, bI_T ⟨a, b, c, by rw [nt_le] at e; exact e⟩]
theorem c_put {n r : Nat} (K : hkd h n = 6) (hr : hR h n 0 = some r) (hk' : hkd h r = 100) (hl : hln h r = 40) {i : Nat} (hi : i < 40) {v : Int32} : Cl (d + 4) 139 [vr (some n), vi (nI i), vi v] h = some (none, setI h r i (putF (hI h n 1) v)) := by
  unfold putF
  by_cases a : hI h n 1 = 0
  · simp (decide := true) (disch := (first | assumption | (simp only [Sh_setI, Sm_setI, Sh_setL, Sm_setL]; assumption) | omega)) only [E_139, B_139_0, B_139_12, B_139_17, B_139_25, B_139_30, B_139_31, a, hr, hk', hl, n_ix, n_cl, bI_True, bI_False, p_max, p_min, p_abs, Option.bind_some, Option.bind_none, Option.toList_some, Option.toList_none, List.cons_append, List.nil_append, bI_eq0, bI_ne0, bI_ne1, bI_eq1, bI_01, eq_self, true_or, or_true, and_true, true_and, false_and, and_false, false_or, or_false, ite_true, ite_false, if_true, if_false, not_true, not_false_iff, Classical.not_not, nem, ite_not, ne_eq]
  · by_cases b : hI h n 1 = 1
    · simp (decide := true) (disch := (first | assumption | (simp only [Sh_setI, Sm_setI, Sh_setL, Sm_setL]; assumption) | omega)) only [E_139, B_139_0, B_139_12, B_139_17, B_139_25, B_139_30, B_139_31, b, hr, hk', hl, n_ix, n_cl, bI_True, bI_False, p_max, p_min, p_abs, Option.bind_some, Option.bind_none, Option.toList_some, Option.toList_none, List.cons_append, List.nil_append, bI_eq0, bI_ne0, bI_ne1, bI_eq1, bI_01, eq_self, true_or, or_true, and_true, true_and, false_and, and_false, false_or, or_false, ite_true, ite_false, if_true, if_false, not_true, not_false_iff, Classical.not_not, nem, ite_not, ne_eq]
    · simp (decide := true) (disch := (first | assumption | (simp only [Sh_setI, Sm_setI, Sh_setL, Sm_setL]; assumption) | omega)) only [E_139, B_139_0, B_139_12, B_139_17, B_139_25, B_139_30, B_139_31, a, b, hr, hk', hl, n_ix, n_cl, bI_True, bI_False, p_max, p_min, p_abs, Option.bind_some, Option.bind_none, Option.toList_some, Option.toList_none, List.cons_append, List.nil_append, bI_eq0, bI_ne0, bI_ne1, bI_eq1, bI_01, eq_self, true_or, or_true, and_true, true_and, false_and, and_false, false_or, or_false, ite_true, ite_false, if_true, if_false, not_true, not_false_iff, Classical.not_not, nem, ite_not, ne_eq]
theorem s_cell (R : Rel h) {x i v : Int32} : Stq (d + 9) 137 213 [vi x, vi i, vi v] h := by
  obtain ⟨S, T, I, C, L⟩ := id R
  rcases in_M x 3 (M := 3) rfl (by decide) with ⟨s, hs3, rfl⟩ | hx
  · have hs : s < 4 := by omega
    obtain ⟨p1, p2, p3, p4, p5⟩ := sh_s S hs
    obtain ⟨a1, a2, a3⟩ := C.2.2.2.2.2.2.1 s hs
    obtain ⟨i1, i2, i3⟩ := I.2.2.2.2.2.2 s hs
    have z1 : hI h 83 s = nI (cl (hI h 83 s)) := i2.1
    have z2 := i2.2
    generalize hZ : cl (hI h 83 s) = z at z1 z2
    by_cases hm : hI h 82 s = -1
    · exact stp_same (v := vi (-11)) R (by simp (decide := true) (disch := (first | assumption | (simp only [Sh_setI, Sm_setI, Sh_setL, Sm_setL]; assumption) | omega)) only [E_137, B_137_0, B_137_5, B_137_15, B_137_20, B_137_23, c_sheetAt S hs, p2, reduceCtorEq, c_isMissing p2, a1, hm, bI_True, bI_False, p_max, p_min, p_abs, Option.bind_some, Option.bind_none, Option.toList_some, Option.toList_none, List.cons_append, List.nil_append, bI_eq0, bI_ne0, bI_ne1, bI_eq1, bI_01, eq_self, true_or, or_true, and_true, true_and, false_and, and_false, false_or, or_false, ite_true, ite_false, if_true, if_false, not_true, not_false_iff, Classical.not_not, nem, ite_not, ne_eq]) (by simp (decide := true) (disch := (first | assumption | (simp only [Sh_setI, Sm_setI, Sh_setL, Sm_setL]; assumption) | omega)) only [E_213, B_213_0, B_213_6, B_213_12, B_213_22, m_in, n_leO, n_Ole, Nat.zero_le, hs3, n_ix, n_cl, hm, bI_True, bI_False, p_max, p_min, p_abs, Option.bind_some, Option.bind_none, Option.toList_some, Option.toList_none, List.cons_append, List.nil_append, bI_eq0, bI_ne0, bI_ne1, bI_eq1, bI_01, eq_self, true_or, or_true, and_true, true_and, false_and, and_false, false_or, or_false, ite_true, ite_false, if_true, if_false, not_true, not_false_iff, Classical.not_not, nem, ite_not, ne_eq])
    · rcases in_IxM i z z1 (by omega) with ⟨k, hk, rfl⟩ | hi
      · have hh : 0 ≤ nI k ∧ 0 ≤ (1 : Int32) ∧ 1 ≤ nI z ∧ nI k ≤ nI z - 1 := ⟨nI_pos' (by omega), by decide, nI_le (a := 1) (by omega) (by omega), (of_eq_true (in_T hk (by omega))).2⟩
        have em := fun d h' => m_inT (d := d) (h := h') z1 hk (by omega)
        have FF : Fi (fun a => a = 45 + 2 * s ∨ a = 46 + 2 * s ∨ a = 82 ∨ a = 83 ∨ a = 84) h (setI (setI h (46 + 2 * s) k (putF (hI h 82 s) v)) 84 (40 * s + k) (putF (hI h 82 s) v)) := Fi.si (Fi.si Fi.rf (Or.inr (Or.inl rfl))) (Or.inr (Or.inr (Or.inr (Or.inr rfl))))
        refine stq_fi (v := vi 1) (h1 := setI h (46 + 2 * s) k (putF (hI h 82 s) v)) R FF (fun n q => by omega) ?_ ?_ (sheet_fin I C hs (so := hI h 82 s) (sz := hI h 83 s) FF (fun q => ?_) (fun q => ?_) ?_ ?_ (fun y j hj => ?_) (fun q hq => ?_) ⟨i1, i2, i3⟩)
        · simp (decide := true) (disch := (first | assumption | (simp only [Sh_setI, Sm_setI, Sh_setL, Sm_setL]; assumption) | omega)) only [E_137, B_137_0, B_137_5, B_137_15, B_137_20, B_137_26, B_137_33, B_137_39, B_137_46, c_sheetAt S hs, p2, reduceCtorEq, c_isMissing p2, a1, hm, c_holds p2, a2, z1, hh, c_put p2 p3 p4 p5, bI_True, bI_False, p_max, p_min, p_abs, Option.bind_some, Option.bind_none, Option.toList_some, Option.toList_none, List.cons_append, List.nil_append, bI_eq0, bI_ne0, bI_ne1, bI_eq1, bI_01, eq_self, true_or, or_true, and_true, true_and, false_and, and_false, false_or, or_false, ite_true, ite_false, if_true, if_false, not_true, not_false_iff, Classical.not_not, nem, ite_not, ne_eq]
        · simp (decide := true) (disch := (first | assumption | (simp only [Sh_setI, Sm_setI, Sh_setL, Sm_setL]; assumption) | omega)) only [E_213, B_213_0, B_213_6, B_213_12, B_213_25, B_213_38, m_in, n_leO, n_Ole, Nat.zero_le, hs3, n_ix, n_cl, hI_ne, hm, em, bI_True, bI_False, p_max, p_min, p_abs, Option.bind_some, Option.bind_none, Option.toList_some, Option.toList_none, List.cons_append, List.nil_append, bI_eq0, bI_ne0, bI_ne1, bI_eq1, bI_01, eq_self, true_or, or_true, and_true, true_and, false_and, and_false, false_or, or_false, ite_true, ite_false, if_true, if_false, not_true, not_false_iff, Classical.not_not, nem, ite_not, ne_eq]
          unfold putF
          by_cases b0 : hI h 82 s = 0
          · simp (decide := true) (disch := (first | assumption | (simp only [Sh_setI, Sm_setI, Sh_setL, Sm_setL]; assumption) | omega)) only [B_213_44, B_213_63, B_213_84, n_ix, n_cl, hI_ne, b0, n_Omul, n_add, hkd_setI, hln_setI, T.kd (n := 84) (k := 100) rfl rfl, T.ln (n := 84) (k := 160) rfl rfl, bI_True, bI_False, p_max, p_min, p_abs, Option.bind_some, Option.bind_none, Option.toList_some, Option.toList_none, List.cons_append, List.nil_append, bI_eq0, bI_ne0, bI_ne1, bI_eq1, bI_01, eq_self, true_or, or_true, and_true, true_and, false_and, and_false, false_or, or_false, ite_true, ite_false, if_true, if_false, not_true, not_false_iff, Classical.not_not, nem, ite_not, ne_eq]
          · by_cases b1 : hI h 82 s = 1
            · simp (decide := true) (disch := (first | assumption | (simp only [Sh_setI, Sm_setI, Sh_setL, Sm_setL]; assumption) | omega)) only [B_213_44, B_213_68, B_213_78, B_213_84, n_ix, n_cl, hI_ne, b1, n_Omul, n_add, hkd_setI, hln_setI, T.kd (n := 84) (k := 100) rfl rfl, T.ln (n := 84) (k := 160) rfl rfl, bI_True, bI_False, p_max, p_min, p_abs, Option.bind_some, Option.bind_none, Option.toList_some, Option.toList_none, List.cons_append, List.nil_append, bI_eq0, bI_ne0, bI_ne1, bI_eq1, bI_01, eq_self, true_or, or_true, and_true, true_and, false_and, and_false, false_or, or_false, ite_true, ite_false, if_true, if_false, not_true, not_false_iff, Classical.not_not, nem, ite_not, ne_eq]
            · simp (decide := true) (disch := (first | assumption | (simp only [Sh_setI, Sm_setI, Sh_setL, Sm_setL]; assumption) | omega)) only [B_213_44, B_213_68, B_213_83, B_213_84, n_ix, n_cl, hI_ne, b0, b1, n_Omul, n_add, hkd_setI, hln_setI, T.kd (n := 84) (k := 100) rfl rfl, T.ln (n := 84) (k := 160) rfl rfl, bI_True, bI_False, p_max, p_min, p_abs, Option.bind_some, Option.bind_none, Option.toList_some, Option.toList_none, List.cons_append, List.nil_append, bI_eq0, bI_ne0, bI_ne1, bI_eq1, bI_01, eq_self, true_or, or_true, and_true, true_and, false_and, and_false, false_or, or_false, ite_true, ite_false, if_true, if_false, not_true, not_false_iff, Classical.not_not, nem, ite_not, ne_eq]
        · rw [hI_ne (by omega), hI_ne (by omega)]
          split
          · rename_i e; rw [e]
          · rfl
        · rw [hI_ne (by omega), hI_ne (by omega)]
          split
          · rename_i e; rw [e]
          · rfl
        · rw [hI_ne (by omega), hI_ne (by omega)]; exact a1
        · rw [hI_ne (by omega), hI_ne (by omega)]; exact a2
        · rw [hI_ne (by omega), hI_eq, hI_eq, hI_ne (by omega)]
          by_cases w : j = k
          · rw [if_pos w, if_pos (by omega)]
          · rw [if_neg w, if_neg (by omega)]
            exact a3 hm j hj
        · rw [hI_eq, if_neg (by omega), hI_ne (by omega)]
      · have hh : ¬ (0 ≤ i ∧ 1 ≤ nI z ∧ i ≤ nI z - 1) := fun w => hi ⟨w.1, by rw [z1]; exact w.2.2⟩
        exact stp_same (v := vi (-12)) R (by simp (decide := true) (disch := (first | assumption | (simp only [Sh_setI, Sm_setI, Sh_setL, Sm_setL]; assumption) | omega)) only [E_137, B_137_0, B_137_5, B_137_15, B_137_20, B_137_26, B_137_33, B_137_36, c_sheetAt S hs, p2, reduceCtorEq, c_isMissing p2, a1, hm, c_holds p2, a2, z1, hh, bI_True, bI_False, p_max, p_min, p_abs, Option.bind_some, Option.bind_none, Option.toList_some, Option.toList_none, List.cons_append, List.nil_append, bI_eq0, bI_ne0, bI_ne1, bI_eq1, bI_01, eq_self, true_or, or_true, and_true, true_and, false_and, and_false, false_or, or_false, ite_true, ite_false, if_true, if_false, not_true, not_false_iff, Classical.not_not, nem, ite_not, ne_eq]) (by simp (decide := true) (disch := (first | assumption | (simp only [Sh_setI, Sm_setI, Sh_setL, Sm_setL]; assumption) | omega)) only [E_213, B_213_0, B_213_6, B_213_12, B_213_25, B_213_38, B_213_41, m_in, n_leO, n_Ole, Nat.zero_le, hs3, n_ix, n_cl, hm, hi, bI_True, bI_False, p_max, p_min, p_abs, Option.bind_some, Option.bind_none, Option.toList_some, Option.toList_none, List.cons_append, List.nil_append, bI_eq0, bI_ne0, bI_ne1, bI_eq1, bI_01, eq_self, true_or, or_true, and_true, true_and, false_and, and_false, false_or, or_false, ite_true, ite_false, if_true, if_false, not_true, not_false_iff, Classical.not_not, nem, ite_not, ne_eq])
  · exact stp_same (v := vi (-2)) R (by simp (decide := true) (disch := (first | assumption | (simp only [Sh_setI, Sm_setI, Sh_setL, Sm_setL]; assumption) | omega)) only [E_137, B_137_0, B_137_5, B_137_12, c_sheetNo hx, bI_True, bI_False, p_max, p_min, p_abs, Option.bind_some, Option.bind_none, Option.toList_some, Option.toList_none, List.cons_append, List.nil_append, bI_eq0, bI_ne0, bI_ne1, bI_eq1, bI_01, eq_self, true_or, or_true, and_true, true_and, false_and, and_false, false_or, or_false, ite_true, ite_false, if_true, if_false, not_true, not_false_iff, Classical.not_not, nem, ite_not, ne_eq]) (by simp (decide := true) (disch := (first | assumption | (simp only [Sh_setI, Sm_setI, Sh_setL, Sm_setL]; assumption) | omega)) only [E_213, B_213_0, B_213_6, B_213_9, m_in, hx, bI_True, bI_False, p_max, p_min, p_abs, Option.bind_some, Option.bind_none, Option.toList_some, Option.toList_none, List.cons_append, List.nil_append, bI_eq0, bI_ne0, bI_ne1, bI_eq1, bI_01, eq_self, true_or, or_true, and_true, true_and, false_and, and_false, false_or, or_false, ite_true, ite_false, if_true, if_false, not_true, not_false_iff, Classical.not_not, nem, ite_not, ne_eq])
end CELL
