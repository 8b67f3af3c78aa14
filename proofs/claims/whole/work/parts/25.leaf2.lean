/-! leaves, more -/
section LEAF2
variable {d : Nat} {h : am_H}
theorem c_leastSlow {s : Int32} : Cl (d + 4) 36 [vi s] h = some (some (vi (if s = 0 then 1 else 0)), h) := by
  simp (decide := true) (disch := (first | assumption | omega)) only [E_36, B_36_0, B_36_4, B_36_8, B_36_9, bI_True, bI_False, p_max, p_min, p_abs, Option.bind_some, Option.bind_none, Option.toList_some, Option.toList_none, List.cons_append, List.nil_append, bI_eq0, bI_ne0, bI_ne1, bI_eq1, bI_01, eq_self, true_or, or_true, and_true, true_and, false_and, and_false, false_or, or_false, ite_true, ite_false, if_true, if_false, not_true, not_false_iff, Classical.not_not, nem, ite_not, ne_eq]
  by_cases a : s = 0
  · simp (decide := true) (disch := (first | assumption | omega)) only [a, bI_True, bI_False, p_max, p_min, p_abs, Option.bind_some, Option.bind_none, Option.toList_some, Option.toList_none, List.cons_append, List.nil_append, bI_eq0, bI_ne0, bI_ne1, bI_eq1, bI_01, eq_self, true_or, or_true, and_true, true_and, false_and, and_false, false_or, or_false, ite_true, ite_false, if_true, if_false, not_true, not_false_iff, Classical.not_not, nem, ite_not, ne_eq]
  · simp (decide := true) (disch := (first | assumption | omega)) only [a, bI_True, bI_False, p_max, p_min, p_abs, Option.bind_some, Option.bind_none, Option.toList_some, Option.toList_none, List.cons_append, List.nil_append, bI_eq0, bI_ne0, bI_ne1, bI_eq1, bI_01, eq_self, true_or, or_true, and_true, true_and, false_and, and_false, false_or, or_false, ite_true, ite_false, if_true, if_false, not_true, not_false_iff, Classical.not_not, nem, ite_not, ne_eq]
theorem c_isSlow {s v : Int32} : Cl (d + 5) 35 [vi s, vi v] h = some (some (vi (bI ((if s = 0 then 1 else 0) ≤ v ∧ v ≤ 99))), h) := by
  simp (decide := true) (disch := (first | assumption | omega)) only [E_35, B_35_0, B_35_5, B_35_8, B_35_14, B_35_18, B_35_19, c_leastSlow, ne1_0, bI_True, bI_False, p_max, p_min, p_abs, Option.bind_some, Option.bind_none, Option.toList_some, Option.toList_none, List.cons_append, List.nil_append, bI_eq0, bI_ne0, bI_ne1, bI_eq1, bI_01, eq_self, true_or, or_true, and_true, true_and, false_and, and_false, false_or, or_false, ite_true, ite_false, if_true, if_false, not_true, not_false_iff, Classical.not_not, nem, ite_not, ne_eq]
  by_cases a : v < (if s = 0 then 1 else 0)
  · rw [if_pos a, bI_F (by rw [← nt_lt] at a; exact fun w => a w.1)]
  · rw [if_neg a]
    rw [nt_le] at a
    by_cases b : 99 < v
    · rw [if_pos b, bI_F (by rw [← nt_lt] at b; exact fun w => b w.2)]
    · rw [if_neg b, bI_T ⟨a, by rw [nt_le] at b; exact b⟩]
theorem c_isFull (S : Sh h) : Cl (d + 4) 38 [vr (some 2)] h = some (some (vi (bI (5 ≤ hI h 2 2))), h) := by
  simp (decide := true) (disch := (first | assumption | omega)) only [E_38, B_38_0, B_38_8, B_38_12, B_38_13, ne1_0, bI, bI_True, bI_False, p_max, p_min, p_abs, Option.bind_some, Option.bind_none, Option.toList_some, Option.toList_none, List.cons_append, List.nil_append, bI_eq0, bI_ne0, bI_ne1, bI_eq1, bI_01, eq_self, true_or, or_true, and_true, true_and, false_and, and_false, false_or, or_false, ite_true, ite_false, if_true, if_false, not_true, not_false_iff, Classical.not_not, nem, ite_not, ne_eq]
  by_cases a : hI h 2 2 < 5
  · rw [if_pos a, if_neg (by rw [← nt_lt] at a; exact a)]
  · rw [if_neg a, if_pos (by rw [nt_le] at a; exact a)]
theorem c_hasShell (S : Sh h) {k : Int32} : Cl (d + 4) 41 [vr (some 2), vi k] h = some (some (vi (bI (0 ≤ k ∧ k < hI h 2 2))), h) := by
  simp (decide := true) (disch := (first | assumption | omega)) only [E_41, B_41_0, B_41_4, B_41_12, B_41_16, B_41_17, ne1_0, bI, bI_True, bI_False, p_max, p_min, p_abs, Option.bind_some, Option.bind_none, Option.toList_some, Option.toList_none, List.cons_append, List.nil_append, bI_eq0, bI_ne0, bI_ne1, bI_eq1, bI_01, eq_self, true_or, or_true, and_true, true_and, false_and, and_false, false_or, or_false, ite_true, ite_false, if_true, if_false, not_true, not_false_iff, Classical.not_not, nem, ite_not, ne_eq]
  by_cases a : k < 0
  · rw [if_pos a, if_neg (by rw [← nt_lt] at a; exact fun w => a w.1)]
  · rw [if_neg a]
    rw [nt_le] at a
    by_cases b : hI h 2 2 ≤ k
    · rw [if_pos b, if_neg (by rw [← nt_le] at b; exact fun w => b w.2)]
    · rw [if_neg b, if_pos ⟨a, by rw [nt_lt] at b; exact b⟩]
theorem c_isSort {s : Int32} : Cl (d + 4) 42 [vi s] h = some (some (vi (bI (s = 0 ∨ s = 1))), h) := by
  simp (decide := true) (disch := (first | assumption | omega)) only [E_42, B_42_0, B_42_4, B_42_9, B_42_13, B_42_14, ne1_0, bI, bI_True, bI_False, p_max, p_min, p_abs, Option.bind_some, Option.bind_none, Option.toList_some, Option.toList_none, List.cons_append, List.nil_append, bI_eq0, bI_ne0, bI_ne1, bI_eq1, bI_01, eq_self, true_or, or_true, and_true, true_and, false_and, and_false, false_or, or_false, ite_true, ite_false, if_true, if_false, not_true, not_false_iff, Classical.not_not, nem, ite_not, ne_eq]
  by_cases a : s = 0
  · simp (decide := true) (disch := (first | assumption | omega)) only [a, bI_True, bI_False, p_max, p_min, p_abs, Option.bind_some, Option.bind_none, Option.toList_some, Option.toList_none, List.cons_append, List.nil_append, bI_eq0, bI_ne0, bI_ne1, bI_eq1, bI_01, eq_self, true_or, or_true, and_true, true_and, false_and, and_false, false_or, or_false, ite_true, ite_false, if_true, if_false, not_true, not_false_iff, Classical.not_not, nem, ite_not, ne_eq]
  · simp (decide := true) (disch := (first | assumption | omega)) only [a, bI_True, bI_False, p_max, p_min, p_abs, Option.bind_some, Option.bind_none, Option.toList_some, Option.toList_none, List.cons_append, List.nil_append, bI_eq0, bI_ne0, bI_ne1, bI_eq1, bI_01, eq_self, true_or, or_true, and_true, true_and, false_and, and_false, false_or, or_false, ite_true, ite_false, if_true, if_false, not_true, not_false_iff, Classical.not_not, nem, ite_not, ne_eq]
    by_cases b : s = 1
    · simp (decide := true) (disch := (first | assumption | omega)) only [b, bI_True, bI_False, p_max, p_min, p_abs, Option.bind_some, Option.bind_none, Option.toList_some, Option.toList_none, List.cons_append, List.nil_append, bI_eq0, bI_ne0, bI_ne1, bI_eq1, bI_01, eq_self, true_or, or_true, and_true, true_and, false_and, and_false, false_or, or_false, ite_true, ite_false, if_true, if_false, not_true, not_false_iff, Classical.not_not, nem, ite_not, ne_eq]
    · simp (decide := true) (disch := (first | assumption | omega)) only [b, bI_True, bI_False, p_max, p_min, p_abs, Option.bind_some, Option.bind_none, Option.toList_some, Option.toList_none, List.cons_append, List.nil_append, bI_eq0, bI_ne0, bI_ne1, bI_eq1, bI_01, eq_self, true_or, or_true, and_true, true_and, false_and, and_false, false_or, or_false, ite_true, ite_false, if_true, if_false, not_true, not_false_iff, Classical.not_not, nem, ite_not, ne_eq]
theorem c_isKind {k : Int32} : Cl (d + 4) 45 [vi k] h = some (some (vi (bI (0 ≤ k ∧ k < 6))), h) := by
  simp (decide := true) (disch := (first | assumption | omega)) only [E_45, B_45_0, B_45_4, B_45_10, B_45_14, B_45_15, ne1_0, bI, bI_True, bI_False, p_max, p_min, p_abs, Option.bind_some, Option.bind_none, Option.toList_some, Option.toList_none, List.cons_append, List.nil_append, bI_eq0, bI_ne0, bI_ne1, bI_eq1, bI_01, eq_self, true_or, or_true, and_true, true_and, false_and, and_false, false_or, or_false, ite_true, ite_false, if_true, if_false, not_true, not_false_iff, Classical.not_not, nem, ite_not, ne_eq]
  by_cases a : k < 0
  · rw [if_pos a, if_neg (by rw [← nt_lt] at a; exact fun w => a w.1)]
  · rw [if_neg a]
    rw [nt_le] at a
    by_cases b : 6 ≤ k
    · rw [if_pos b, if_neg (by rw [← nt_le] at b; exact fun w => b w.2)]
    · rw [if_neg b, if_pos ⟨a, by rw [nt_lt] at b; exact b⟩]
theorem c_sortOf {k : Int32} : Cl (d + 4) 47 [vi k] h = some (some (vi (bI (k = 1 ∨ k = 4 ∨ k = 5))), h) := by
  simp (decide := true) (disch := (first | assumption | omega)) only [E_47, B_47_0, B_47_5, B_47_10, B_47_15, B_47_19, B_47_20, ne1_0, bI, bI_True, bI_False, p_max, p_min, p_abs, Option.bind_some, Option.bind_none, Option.toList_some, Option.toList_none, List.cons_append, List.nil_append, bI_eq0, bI_ne0, bI_ne1, bI_eq1, bI_01, eq_self, true_or, or_true, and_true, true_and, false_and, and_false, false_or, or_false, ite_true, ite_false, if_true, if_false, not_true, not_false_iff, Classical.not_not, nem, ite_not, ne_eq]
  by_cases a : k = 1
  · simp (decide := true) (disch := (first | assumption | omega)) only [a, bI_True, bI_False, p_max, p_min, p_abs, Option.bind_some, Option.bind_none, Option.toList_some, Option.toList_none, List.cons_append, List.nil_append, bI_eq0, bI_ne0, bI_ne1, bI_eq1, bI_01, eq_self, true_or, or_true, and_true, true_and, false_and, and_false, false_or, or_false, ite_true, ite_false, if_true, if_false, not_true, not_false_iff, Classical.not_not, nem, ite_not, ne_eq]
  · by_cases b : k = 4
    · simp (decide := true) (disch := (first | assumption | omega)) only [a, b, bI_True, bI_False, p_max, p_min, p_abs, Option.bind_some, Option.bind_none, Option.toList_some, Option.toList_none, List.cons_append, List.nil_append, bI_eq0, bI_ne0, bI_ne1, bI_eq1, bI_01, eq_self, true_or, or_true, and_true, true_and, false_and, and_false, false_or, or_false, ite_true, ite_false, if_true, if_false, not_true, not_false_iff, Classical.not_not, nem, ite_not, ne_eq]
    · by_cases c : k = 5
      · simp (decide := true) (disch := (first | assumption | omega)) only [a, b, c, bI_True, bI_False, p_max, p_min, p_abs, Option.bind_some, Option.bind_none, Option.toList_some, Option.toList_none, List.cons_append, List.nil_append, bI_eq0, bI_ne0, bI_ne1, bI_eq1, bI_01, eq_self, true_or, or_true, and_true, true_and, false_and, and_false, false_or, or_false, ite_true, ite_false, if_true, if_false, not_true, not_false_iff, Classical.not_not, nem, ite_not, ne_eq]
      · simp (decide := true) (disch := (first | assumption | omega)) only [a, b, c, bI_True, bI_False, p_max, p_min, p_abs, Option.bind_some, Option.bind_none, Option.toList_some, Option.toList_none, List.cons_append, List.nil_append, bI_eq0, bI_ne0, bI_ne1, bI_eq1, bI_01, eq_self, true_or, or_true, and_true, true_and, false_and, and_false, false_or, or_false, ite_true, ite_false, if_true, if_false, not_true, not_false_iff, Classical.not_not, nem, ite_not, ne_eq]
def downF (p0 : Int32) (n : Nat) (deep : Int32) : Int32 := if n = 0 then 0 else deep * p0 / 10
theorem sh_row (S : Sh h) {s : Nat} (hs : s < 2) : hR h 4 s = some (5 + s) := by
  match s, hs with
  | 0, _ => exact S.rf rfl rfl
  | 1, _ => exact S.rf rfl rfl
theorem sh_rowk (S : Sh h) {s : Nat} (hs : s < 2) : hkd h (5 + s) = 100 := by
  match s, hs with
  | 0, _ => exact S.kd rfl rfl
  | 1, _ => exact S.kd rfl rfl
theorem sh_rowl (S : Sh h) {s : Nat} (hs : s < 2) : hln h (5 + s) = 5 := by
  match s, hs with
  | 0, _ => exact S.ln rfl rfl
  | 1, _ => exact S.ln rfl rfl
theorem c_down (S : Sh h) {n : Nat} (hn : hI h 2 2 = nI n) (h5 : n ≤ 5) {v : Int32} : Cl (d + 4) 49 [vr (some 2), vi v] h = some (some (vi (downF (hI h 5 0) n v)), h) := by
  simp (decide := true) (disch := (first | assumption | omega)) only [E_49, B_49_0, B_49_7, B_49_11, B_49_24, hn, n_eqO, downF, n_ixO, n_clO, S.rf (n := 4) (f := 0) (k := 5) rfl rfl, S.kd (n := 5) (k := 100) rfl rfl, S.ln (n := 5) (k := 5) rfl rfl, mg_i, bI_True, bI_False, p_max, p_min, p_abs, Option.bind_some, Option.bind_none, Option.toList_some, Option.toList_none, List.cons_append, List.nil_append, bI_eq0, bI_ne0, bI_ne1, bI_eq1, bI_01, eq_self, true_or, or_true, and_true, true_and, false_and, and_false, false_or, or_false, ite_true, ite_false, if_true, if_false, not_true, not_false_iff, Classical.not_not, nem, ite_not, ne_eq]
theorem m_down (T : Sm h) {n : Nat} (hn : hI h 56 1 = nI n) (h5 : n ≤ 5) {v : Int32} : Cl (d + 4) 154 [vr (some 56), vi v] h = some (some (vi (downF (hI h 58 0) n v)), h) := by
  simp (decide := true) (disch := (first | assumption | omega)) only [E_154, B_154_0, B_154_7, B_154_11, B_154_22, hn, n_eqO, downF, n_ixO, n_clO, mg_i, bI_True, bI_False, p_max, p_min, p_abs, Option.bind_some, Option.bind_none, Option.toList_some, Option.toList_none, List.cons_append, List.nil_append, bI_eq0, bI_ne0, bI_ne1, bI_eq1, bI_01, eq_self, true_or, or_true, and_true, true_and, false_and, and_false, false_or, or_false, ite_true, ite_false, if_true, if_false, not_true, not_false_iff, Classical.not_not, nem, ite_not, ne_eq]
def laterF (t b : Int32) : Int32 := if t = -1 then -1 else if 0 < t + b then t + b else 0
theorem pos_le {x : Int32} : (if 0 ≤ x then x else 0) = if 0 < x then x else 0 := by
  by_cases a : 0 < x
  · rw [if_pos a, if_pos (Int32.le_of_lt a)]
  · rw [if_neg a]
    split
    · rename_i b; exact Int32.le_antisymm (by rw [nt_le] at a; exact a) b
    · rfl
theorem c_later {t b : Int32} : Cl (d + 5) 50 [vi t, vi b] h = some (some (vi (laterF t b)), h) := by
  simp (decide := true) (disch := (first | assumption | omega)) only [E_50, B_50_0, B_50_5, B_50_9, B_50_16, laterF, mg_i, bI_True, bI_False, p_max, p_min, p_abs, Option.bind_some, Option.bind_none, Option.toList_some, Option.toList_none, List.cons_append, List.nil_append, bI_eq0, bI_ne0, bI_ne1, bI_eq1, bI_01, eq_self, true_or, or_true, and_true, true_and, false_and, and_false, false_or, or_false, ite_true, ite_false, if_true, if_false, not_true, not_false_iff, Classical.not_not, nem, ite_not, ne_eq]
theorem m_lessDown (T : Sm h) {n : Nat} (hn : hI h 56 1 = nI n) (h5 : n ≤ 5) {t v : Int32} : Cl (d + 5) 153 [vr (some 56), vi t, vi v] h = some (some (vi (laterF t (-(downF (hI h 58 0) n v)))), h) := by
  simp (decide := true) (disch := (first | assumption | omega)) only [E_153, B_153_0, B_153_5, B_153_9, B_153_15, B_153_19, B_153_23, B_153_29, B_153_30, m_down T hn h5, laterF, mg_i, pos_le, ← Int32.sub_eq_add_neg, bI_True, bI_False, p_max, p_min, p_abs, Option.bind_some, Option.bind_none, Option.toList_some, Option.toList_none, List.cons_append, List.nil_append, bI_eq0, bI_ne0, bI_ne1, bI_eq1, bI_01, eq_self, true_or, or_true, and_true, true_and, false_and, and_false, false_or, or_false, ite_true, ite_false, if_true, if_false, not_true, not_false_iff, Classical.not_not, nem, ite_not, ne_eq]
def halfF (a b : Int32) : Int32 := if a = -1 ∨ b = -1 then -1 else (a + b) / 2
theorem c_halfOf {t b : Int32} : Cl (d + 4) 53 [vi t, vi b] h = some (some (vi (halfF t b)), h) := by
  simp (decide := true) (disch := (first | assumption | omega)) only [E_53, B_53_0, B_53_5, B_53_10, B_53_14, B_53_19, halfF, mg_i, bI_True, bI_False, p_max, p_min, p_abs, Option.bind_some, Option.bind_none, Option.toList_some, Option.toList_none, List.cons_append, List.nil_append, bI_eq0, bI_ne0, bI_ne1, bI_eq1, bI_01, eq_self, true_or, or_true, and_true, true_and, false_and, and_false, false_or, or_false, ite_true, ite_false, if_true, if_false, not_true, not_false_iff, Classical.not_not, nem, ite_not, ne_eq]
  by_cases a : t = -1
  · simp (decide := true) (disch := (first | assumption | omega)) only [a, bI_True, bI_False, p_max, p_min, p_abs, Option.bind_some, Option.bind_none, Option.toList_some, Option.toList_none, List.cons_append, List.nil_append, bI_eq0, bI_ne0, bI_ne1, bI_eq1, bI_01, eq_self, true_or, or_true, and_true, true_and, false_and, and_false, false_or, or_false, ite_true, ite_false, if_true, if_false, not_true, not_false_iff, Classical.not_not, nem, ite_not, ne_eq]
  · simp (decide := true) (disch := (first | assumption | omega)) only [a, bI_True, bI_False, p_max, p_min, p_abs, Option.bind_some, Option.bind_none, Option.toList_some, Option.toList_none, List.cons_append, List.nil_append, bI_eq0, bI_ne0, bI_ne1, bI_eq1, bI_01, eq_self, true_or, or_true, and_true, true_and, false_and, and_false, false_or, or_false, ite_true, ite_false, if_true, if_false, not_true, not_false_iff, Classical.not_not, nem, ite_not, ne_eq]
theorem c_firstThere {t b : Int32} : Cl (d + 4) 54 [vi t, vi b] h = some (some (vi (if t = -1 then b else t)), h) := by
  simp (decide := true) (disch := (first | assumption | omega)) only [E_54, B_54_0, B_54_5, B_54_9, B_54_10, mg_i, bI_True, bI_False, p_max, p_min, p_abs, Option.bind_some, Option.bind_none, Option.toList_some, Option.toList_none, List.cons_append, List.nil_append, bI_eq0, bI_ne0, bI_ne1, bI_eq1, bI_01, eq_self, true_or, or_true, and_true, true_and, false_and, and_false, false_or, or_false, ite_true, ite_false, if_true, if_false, not_true, not_false_iff, Classical.not_not, nem, ite_not, ne_eq]
def apd (a b : Nat) : Nat := if a < b then b - a else a - b
def apN (a b : Nat) : Nat := if 180 < apd a b then 360 - apd a b else apd a b
theorem apd_lt {a b : Nat} (q : a < b) : apd a b = b - a := if_pos q
theorem apd_ge {a b : Nat} (q : ¬ a < b) : apd a b = a - b := if_neg q
theorem apd_comm (a b : Nat) : apd a b = apd b a := by unfold apd; split <;> split <;> omega
theorem apd_360 {a b : Nat} (ha : a < 360) (hb : b < 360) : apd a b < 360 := by unfold apd; split <;> omega
theorem apN_le {a b : Nat} (ha : a < 360) (hb : b < 360) : apN a b ≤ 180 := by
  have := apd_360 ha hb
  unfold apN; split <;> omega
theorem apN_comm (a b : Nat) : apN a b = apN b a := by unfold apN; rw [apd_comm]
theorem ap_abs {a b : Nat} (ha : a < 360) (hb : b < 360) : (if 0 ≤ nI a - nI b then nI a - nI b else 0 - (nI a - nI b)) = nI (apd a b) := by
  by_cases q : a < b
  · rw [if_neg (by rw [nt_lt]; exact pk_sneg (by omega) q), apd_lt q, ← n_sub (by omega : a ≤ b), Int32.zero_sub, Int32.neg_sub]
  · rw [n_sub (by omega), if_pos (nI_pos' (by omega)), apd_ge q]
theorem c_apart {a b : Nat} (ha : a < 360) (hb : b < 360) : Cl (d + 5) 77 [vi (nI a), vi (nI b)] h = some (some (vi (nI (apN a b))), h) := by
  have q := apd_360 ha hb
  simp (decide := true) (disch := (first | assumption | omega)) only [E_77, B_77_0, B_77_6, B_77_16, ap_abs ha hb, bI_True, bI_False, p_max, p_min, p_abs, Option.bind_some, Option.bind_none, Option.toList_some, Option.toList_none, List.cons_append, List.nil_append, bI_eq0, bI_ne0, bI_ne1, bI_eq1, bI_01, eq_self, true_or, or_true, and_true, true_and, false_and, and_false, false_or, or_false, ite_true, ite_false, if_true, if_false, not_true, not_false_iff, Classical.not_not, nem, ite_not, ne_eq]
  simp (decide := true) (disch := (first | assumption | omega)) only [show (360 : Int32) = nI 360 from rfl, n_sub, n_lt, bI_True, bI_False, p_max, p_min, p_abs, Option.bind_some, Option.bind_none, Option.toList_some, Option.toList_none, List.cons_append, List.nil_append, bI_eq0, bI_ne0, bI_ne1, bI_eq1, bI_01, eq_self, true_or, or_true, and_true, true_and, false_and, and_false, false_or, or_false, ite_true, ite_false, if_true, if_false, not_true, not_false_iff, Classical.not_not, nem, ite_not, ne_eq]
  unfold apN
  by_cases w : 180 < apd a b
  · rw [if_pos w, if_pos (by omega)]
  · rw [if_neg w]
    split
    · rename_i e; rw [show 360 - apd a b = apd a b by omega]
    · rfl
theorem m_apart {a b : Nat} (ha : a < 360) (hb : b < 360) : Cl (d + 4) 173 [vi (nI a), vi (nI b)] h = some (some (vi (nI (apN a b))), h) := by
  have q := apd_360 ha hb
  by_cases c : a < b
  · have e := apd_lt c
    have c' := Nat.le_of_lt c
    simp (decide := true) (disch := (first | assumption | omega)) only [E_173, B_173_0, B_173_5, B_173_11, B_173_14, B_173_22, B_173_30, B_173_31, n_leF, n_sub, ← e, n_leO, show (360 : Int32) = nI 360 from rfl, mg_i, bI_True, bI_False, p_max, p_min, p_abs, Option.bind_some, Option.bind_none, Option.toList_some, Option.toList_none, List.cons_append, List.nil_append, bI_eq0, bI_ne0, bI_ne1, bI_eq1, bI_01, eq_self, true_or, or_true, and_true, true_and, false_and, and_false, false_or, or_false, ite_true, ite_false, if_true, if_false, not_true, not_false_iff, Classical.not_not, nem, ite_not, ne_eq]
    unfold apN
    by_cases w : 180 < apd a b
    · simp (decide := true) (disch := (first | assumption | omega)) only [w, if_neg (show ¬ apd a b ≤ 180 by omega), n_sub, bI_True, bI_False, p_max, p_min, p_abs, Option.bind_some, Option.bind_none, Option.toList_some, Option.toList_none, List.cons_append, List.nil_append, bI_eq0, bI_ne0, bI_ne1, bI_eq1, bI_01, eq_self, true_or, or_true, and_true, true_and, false_and, and_false, false_or, or_false, ite_true, ite_false, if_true, if_false, not_true, not_false_iff, Classical.not_not, nem, ite_not, ne_eq]
    · simp (decide := true) (disch := (first | assumption | omega)) only [w, if_pos (show apd a b ≤ 180 by omega), bI_True, bI_False, p_max, p_min, p_abs, Option.bind_some, Option.bind_none, Option.toList_some, Option.toList_none, List.cons_append, List.nil_append, bI_eq0, bI_ne0, bI_ne1, bI_eq1, bI_01, eq_self, true_or, or_true, and_true, true_and, false_and, and_false, false_or, or_false, ite_true, ite_false, if_true, if_false, not_true, not_false_iff, Classical.not_not, nem, ite_not, ne_eq]
  · have e := apd_ge c
    have c' := Nat.le_of_not_lt c
    simp (decide := true) (disch := (first | assumption | omega)) only [E_173, B_173_0, B_173_5, B_173_11, B_173_14, B_173_22, B_173_30, B_173_31, n_leT, n_sub, ← e, n_leO, show (360 : Int32) = nI 360 from rfl, mg_i, bI_True, bI_False, p_max, p_min, p_abs, Option.bind_some, Option.bind_none, Option.toList_some, Option.toList_none, List.cons_append, List.nil_append, bI_eq0, bI_ne0, bI_ne1, bI_eq1, bI_01, eq_self, true_or, or_true, and_true, true_and, false_and, and_false, false_or, or_false, ite_true, ite_false, if_true, if_false, not_true, not_false_iff, Classical.not_not, nem, ite_not, ne_eq]
    unfold apN
    by_cases w : 180 < apd a b
    · simp (decide := true) (disch := (first | assumption | omega)) only [w, if_neg (show ¬ apd a b ≤ 180 by omega), n_sub, bI_True, bI_False, p_max, p_min, p_abs, Option.bind_some, Option.bind_none, Option.toList_some, Option.toList_none, List.cons_append, List.nil_append, bI_eq0, bI_ne0, bI_ne1, bI_eq1, bI_01, eq_self, true_or, or_true, and_true, true_and, false_and, and_false, false_or, or_false, ite_true, ite_false, if_true, if_false, not_true, not_false_iff, Classical.not_not, nem, ite_not, ne_eq]
    · simp (decide := true) (disch := (first | assumption | omega)) only [w, if_pos (show apd a b ≤ 180 by omega), bI_True, bI_False, p_max, p_min, p_abs, Option.bind_some, Option.bind_none, Option.toList_some, Option.toList_none, List.cons_append, List.nil_append, bI_eq0, bI_ne0, bI_ne1, bI_eq1, bI_01, eq_self, true_or, or_true, and_true, true_and, false_and, and_false, false_or, or_false, ite_true, ite_false, if_true, if_false, not_true, not_false_iff, Classical.not_not, nem, ite_not, ne_eq]
end LEAF2
