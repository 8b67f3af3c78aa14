/-! leaves -/
section LEAF
variable {d : Nat} {h : am_H}
theorem c_isIn {v l m : Int32} : Cl (d + 4) 34 [vi v, vi l, vi m] h = some (some (vi (bI (l ≤ v ∧ v ≤ m))), h) := by
  simp (decide := true) (disch := (first | assumption | omega)) only [E_34, B_34_0, B_34_5, B_34_10, B_34_14, B_34_15, ne1_0, bI_True, bI_False, p_max, p_min, p_abs, Option.bind_some, Option.bind_none, Option.toList_some, Option.toList_none, List.cons_append, List.nil_append, bI_eq0, bI_ne0, bI_ne1, bI_eq1, bI_01, eq_self, true_or, or_true, and_true, true_and, false_and, and_false, false_or, or_false, ite_true, ite_false, if_true, if_false, not_true, not_false_iff, Classical.not_not, nem, ite_not, ne_eq]
  by_cases a : v < l
  · rw [if_pos a, bI_F (by rw [← nt_lt] at a; exact fun w => a w.1)]
  · rw [if_neg a]
    rw [nt_le] at a
    by_cases b : m < v
    · rw [if_pos b, bI_F (by rw [← nt_lt] at b; exact fun w => b w.2)]
    · rw [if_neg b, bI_T ⟨a, by rw [nt_le] at b; exact b⟩]
theorem m_in {v l m : Int32} : Cl (d + 4) 148 [vi v, vi l, vi m] h = some (some (vi (bI (l ≤ v ∧ v ≤ m))), h) := by
  simp (decide := true) (disch := (first | assumption | omega)) only [E_148, B_148_0, B_148_5, B_148_10, B_148_14, B_148_15, ne1_0, bI_True, bI_False, p_max, p_min, p_abs, Option.bind_some, Option.bind_none, Option.toList_some, Option.toList_none, List.cons_append, List.nil_append, bI_eq0, bI_ne0, bI_ne1, bI_eq1, bI_01, eq_self, true_or, or_true, and_true, true_and, false_and, and_false, false_or, or_false, ite_true, ite_false, if_true, if_false, not_true, not_false_iff, Classical.not_not, nem, ite_not, ne_eq]
  by_cases a : v < l
  · rw [if_pos a, bI_F (by rw [← nt_lt] at a; exact fun w => a w.1)]
  · rw [if_neg a]
    rw [nt_le] at a
    by_cases b : m < v
    · rw [if_pos b, bI_F (by rw [← nt_lt] at b; exact fun w => b w.2)]
    · rw [if_neg b, bI_T ⟨a, by rw [nt_le] at b; exact b⟩]
theorem c_isPlace {v : Int32} : Cl (d + 5) 57 [vi v] h = some (some (vi (bI (0 ≤ v ∧ v ≤ 359))), h) := by
  simp (decide := true) (disch := (first | assumption | omega)) only [E_57, B_57_0, B_57_8, c_isIn, bI_True, bI_False, p_max, p_min, p_abs, Option.bind_some, Option.bind_none, Option.toList_some, Option.toList_none, List.cons_append, List.nil_append, bI_eq0, bI_ne0, bI_ne1, bI_eq1, bI_01, eq_self, true_or, or_true, and_true, true_and, false_and, and_false, false_or, or_false, ite_true, ite_false, if_true, if_false, not_true, not_false_iff, Classical.not_not, nem, ite_not, ne_eq]
theorem c_isDrift {v : Int32} : Cl (d + 5) 58 [vi v] h = some (some (vi (bI (-99 ≤ v ∧ v ≤ 99))), h) := by
  simp (decide := true) (disch := (first | assumption | omega)) only [E_58, B_58_0, B_58_8, c_isIn, bI_True, bI_False, p_max, p_min, p_abs, Option.bind_some, Option.bind_none, Option.toList_some, Option.toList_none, List.cons_append, List.nil_append, bI_eq0, bI_ne0, bI_ne1, bI_eq1, bI_01, eq_self, true_or, or_true, and_true, true_and, false_and, and_false, false_or, or_false, ite_true, ite_false, if_true, if_false, not_true, not_false_iff, Classical.not_not, nem, ite_not, ne_eq]
theorem c_isTime {v : Int32} : Cl (d + 5) 63 [vi v] h = some (some (vi (bI (0 ≤ v ∧ v ≤ 9999999))), h) := by
  simp (decide := true) (disch := (first | assumption | omega)) only [E_63, B_63_0, B_63_8, c_isIn, bI_True, bI_False, p_max, p_min, p_abs, Option.bind_some, Option.bind_none, Option.toList_some, Option.toList_none, List.cons_append, List.nil_append, bI_eq0, bI_ne0, bI_ne1, bI_eq1, bI_01, eq_self, true_or, or_true, and_true, true_and, false_and, and_false, false_or, or_false, ite_true, ite_false, if_true, if_false, not_true, not_false_iff, Classical.not_not, nem, ite_not, ne_eq]
theorem c_isDay (S : Sh h) {v : Int32} : Cl (d + 5) 73 [vr (some 1), vi v] h = some (some (vi (bI (0 ≤ v ∧ v ≤ hI h 1 7))), h) := by
  simp (decide := true) (disch := (first | assumption | omega)) only [E_73, B_73_0, B_73_9, c_isIn, bI_True, bI_False, p_max, p_min, p_abs, Option.bind_some, Option.bind_none, Option.toList_some, Option.toList_none, List.cons_append, List.nil_append, bI_eq0, bI_ne0, bI_ne1, bI_eq1, bI_01, eq_self, true_or, or_true, and_true, true_and, false_and, and_false, false_or, or_false, ite_true, ite_false, if_true, if_false, not_true, not_false_iff, Classical.not_not, nem, ite_not, ne_eq]
theorem m_isPlace {v : Int32} : Cl (d + 5) 158 [vi v] h = some (some (vi (bI (0 ≤ v ∧ v ≤ 359))), h) := by
  simp (decide := true) (disch := (first | assumption | omega)) only [E_158, B_158_0, B_158_8, m_in, bI_True, bI_False, p_max, p_min, p_abs, Option.bind_some, Option.bind_none, Option.toList_some, Option.toList_none, List.cons_append, List.nil_append, bI_eq0, bI_ne0, bI_ne1, bI_eq1, bI_01, eq_self, true_or, or_true, and_true, true_and, false_and, and_false, false_or, or_false, ite_true, ite_false, if_true, if_false, not_true, not_false_iff, Classical.not_not, nem, ite_not, ne_eq]
theorem m_isShake (T : Sm h) {v : Int32} : Cl (d + 5) 163 [vr (some 56), vi v] h = some (some (vi (bI (0 ≤ v ∧ v ≤ hI h 56 8 - 1))), h) := by
  simp (decide := true) (disch := (first | assumption | omega)) only [E_163, B_163_0, B_163_11, m_in, bI_True, bI_False, p_max, p_min, p_abs, Option.bind_some, Option.bind_none, Option.toList_some, Option.toList_none, List.cons_append, List.nil_append, bI_eq0, bI_ne0, bI_ne1, bI_eq1, bI_01, eq_self, true_or, or_true, and_true, true_and, false_and, and_false, false_or, or_false, ite_true, ite_false, if_true, if_false, not_true, not_false_iff, Classical.not_not, nem, ite_not, ne_eq]
theorem m_isCard (T : Sm h) {v : Int32} : Cl (d + 5) 165 [vr (some 56), vi v] h = some (some (vi (bI (0 ≤ v ∧ v ≤ hI h 56 12 - 1))), h) := by
  simp (decide := true) (disch := (first | assumption | omega)) only [E_165, B_165_0, B_165_11, m_in, bI_True, bI_False, p_max, p_min, p_abs, Option.bind_some, Option.bind_none, Option.toList_some, Option.toList_none, List.cons_append, List.nil_append, bI_eq0, bI_ne0, bI_ne1, bI_eq1, bI_01, eq_self, true_or, or_true, and_true, true_and, false_and, and_false, false_or, or_false, ite_true, ite_false, if_true, if_false, not_true, not_false_iff, Classical.not_not, nem, ite_not, ne_eq]
theorem m_isKnown (T : Sm h) {v : Int32} : Cl (d + 5) 168 [vr (some 56), vi v] h = some (some (vi (bI (0 ≤ v ∧ v ≤ hI h 56 0))), h) := by
  simp (decide := true) (disch := (first | assumption | omega)) only [E_168, B_168_0, B_168_9, m_in, bI_True, bI_False, p_max, p_min, p_abs, Option.bind_some, Option.bind_none, Option.toList_some, Option.toList_none, List.cons_append, List.nil_append, bI_eq0, bI_ne0, bI_ne1, bI_eq1, bI_01, eq_self, true_or, or_true, and_true, true_and, false_and, and_false, false_or, or_false, ite_true, ite_false, if_true, if_false, not_true, not_false_iff, Classical.not_not, nem, ite_not, ne_eq]
end LEAF
