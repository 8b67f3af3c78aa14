/-! the ball: what is due -/
def comesF (k n : Nat) (far : Int32) : Bool := decide ((if k = 0 then 0 else 25 * nI k - 10) ≤ far ∧ far ≤ (if k = n - 1 then 180 else 40 + 35 * nI k))
def leastL (th sl : Nat → Int32) (n : Nat) (far : Int32) : Nat → Nat → Int32 → Int32 → Int32 → Int32
  | 0, _, best, _, _ => best
  | j + 1, k, best, g, dn => if sl k = 0 then best else leastL th sl n far j (k + 1) (if comesF k n far then (if best = -1 then 2 * dn + far * g * sl k / 100 else if best ≤ 2 * dn + far * g * sl k / 100 then best else 2 * dn + far * g * sl k / 100) else best) (g - th k) (dn + th k * sl k)
def leastF (th sl : Nat → Int32) (n : Nat) (far : Int32) : Int32 := leastL th sl n far n 0 (-1) 600 0
def backL (th sl : Nat → Int32) : Nat → Nat → Int32 → Option Int32
  | 0, _, dn => some dn
  | j + 1, k, dn => if sl k = 0 then none else backL th sl j (k + 1) (dn + th k * sl k)
def backF (th sl : Nat → Int32) (n : Nat) (far : Int32) (e : Nat) : Int32 := if 1 ≤ e ∧ e < n ∧ far ≤ 90 then (match backL th sl e 0 0 with
  | none => -1
  | some dn => 2 * dn + far * sl (e - 1)) else -1
section BALL
variable {d : Nat} {h : am_H}
theorem c_comes (S : Sh h) {n k : Nat} (hn : hI h 2 2 = nI n) (h5 : n ≤ 5) (hk : k < n) {far : Int32} : Cl (d + 4) 52 [vr (some 2), vi (nI k), vi far] h = some (some (vi (bI (comesF k n far))), h) := by
  simp (decide := true) (disch := (first | assumption | omega)) only [E_52, B_52_0, B_52_4, B_52_8, B_52_15, B_52_26, B_52_32, B_52_39, B_52_46, B_52_52, B_52_56, B_52_57, hn, n_eqO, n_subO, n_eq, mg_i, ne1_0, bI_True, bI_False, p_max, p_min, p_abs, Option.bind_some, Option.bind_none, Option.toList_some, Option.toList_none, List.cons_append, List.nil_append, bI_eq0, bI_ne0, bI_ne1, bI_eq1, bI_01, eq_self, true_or, or_true, and_true, true_and, false_and, and_false, false_or, or_false, ite_true, ite_false, if_true, if_false, not_true, not_false_iff, Classical.not_not, nem, ite_not, ne_eq]
  unfold comesF
  by_cases a : k = 0
  · subst a
    by_cases b : 0 = n - 1
    · simp (decide := true) (disch := (first | assumption | omega)) only [← nt_lt, if_pos b, if_and, mg_10, decide_eq_true_eq, mg_b, bI_True, bI_False, p_max, p_min, p_abs, Option.bind_some, Option.bind_none, Option.toList_some, Option.toList_none, List.cons_append, List.nil_append, bI_eq0, bI_ne0, bI_ne1, bI_eq1, bI_01, eq_self, true_or, or_true, and_true, true_and, false_and, and_false, false_or, or_false, ite_true, ite_false, if_true, if_false, not_true, not_false_iff, Classical.not_not, nem, ite_not, ne_eq]
    · simp (decide := true) (disch := (first | assumption | omega)) only [← nt_lt, if_neg b, if_and, mg_10, decide_eq_true_eq, mg_b, bI_True, bI_False, p_max, p_min, p_abs, Option.bind_some, Option.bind_none, Option.toList_some, Option.toList_none, List.cons_append, List.nil_append, bI_eq0, bI_ne0, bI_ne1, bI_eq1, bI_01, eq_self, true_or, or_true, and_true, true_and, false_and, and_false, false_or, or_false, ite_true, ite_false, if_true, if_false, not_true, not_false_iff, Classical.not_not, nem, ite_not, ne_eq]
  · by_cases b : k = n - 1
    · simp (decide := true) (disch := (first | assumption | omega)) only [← nt_lt, if_neg a, if_pos b, if_and, mg_10, decide_eq_true_eq, mg_b, bI_True, bI_False, p_max, p_min, p_abs, Option.bind_some, Option.bind_none, Option.toList_some, Option.toList_none, List.cons_append, List.nil_append, bI_eq0, bI_ne0, bI_ne1, bI_eq1, bI_01, eq_self, true_or, or_true, and_true, true_and, false_and, and_false, false_or, or_false, ite_true, ite_false, if_true, if_false, not_true, not_false_iff, Classical.not_not, nem, ite_not, ne_eq]
    · simp (decide := true) (disch := (first | assumption | omega)) only [← nt_lt, if_neg a, if_neg b, if_and, mg_10, decide_eq_true_eq, mg_b, bI_True, bI_False, p_max, p_min, p_abs, Option.bind_some, Option.bind_none, Option.toList_some, Option.toList_none, List.cons_append, List.nil_append, bI_eq0, bI_ne0, bI_ne1, bI_eq1, bI_01, eq_self, true_or, or_true, and_true, true_and, false_and, and_false, false_or, or_false, ite_true, ite_false, if_true, if_false, not_true, not_false_iff, Classical.not_not, nem, ite_not, ne_eq]
theorem c_leastL (S : Sh h) {n s : Nat} (hn : hI h 2 2 = nI n) (h5 : n ≤ 5) (hs : s < 2) {far : Int32} : ∀ (j k : Nat) (best g dn : Int32) (a7 : am_V), k + j = n → Ev (d + 5) 51 13 [vr (some 2), vi (nI s), vi far, vi best, vi g, vi dn, vi (nI k), a7] [] h = some (some (vi (leastL (hI h 3) (hI h (5 + s)) n far j k best g dn)), h) := by
  intro j
  induction j with
  | zero =>
    intro k best g dn a7 e
    simp (decide := true) (disch := (first | assumption | omega)) only [B_51_13, hn, n_leT, B_51_122, leastL, bI_True, bI_False, p_max, p_min, p_abs, Option.bind_some, Option.bind_none, Option.toList_some, Option.toList_none, List.cons_append, List.nil_append, bI_eq0, bI_ne0, bI_ne1, bI_eq1, bI_01, eq_self, true_or, or_true, and_true, true_and, false_and, and_false, false_or, or_false, ite_true, ite_false, if_true, if_false, not_true, not_false_iff, Classical.not_not, nem, ite_not, ne_eq]
  | succ j ih =>
    intro k best g dn a7 e
    rw [B_51_13 S]
    simp (decide := true) (disch := (first | assumption | omega)) only [hn, n_leF, E_51, B_51_0, B_51_22, B_51_34, B_51_65, B_51_68, B_51_73, B_51_79, B_51_82, B_51_122, n_ix, n_cl, sh_row S, sh_rowk S, sh_rowl S, c_comes S hn h5, n_addO, leastL, bI_True, bI_False, p_max, p_min, p_abs, Option.bind_some, Option.bind_none, Option.toList_some, Option.toList_none, List.cons_append, List.nil_append, bI_eq0, bI_ne0, bI_ne1, bI_eq1, bI_01, eq_self, true_or, or_true, and_true, true_and, false_and, and_false, false_or, or_false, ite_true, ite_false, if_true, if_false, not_true, not_false_iff, Classical.not_not, nem, ite_not, ne_eq]
    by_cases a : hI h (5 + s) k = 0
    · simp (decide := true) (disch := (first | assumption | omega)) only [a, bI_True, bI_False, p_max, p_min, p_abs, Option.bind_some, Option.bind_none, Option.toList_some, Option.toList_none, List.cons_append, List.nil_append, bI_eq0, bI_ne0, bI_ne1, bI_eq1, bI_01, eq_self, true_or, or_true, and_true, true_and, false_and, and_false, false_or, or_false, ite_true, ite_false, if_true, if_false, not_true, not_false_iff, Classical.not_not, nem, ite_not, ne_eq]
    · simp (decide := true) (disch := (first | assumption | omega)) only [a, ih, bI_True, bI_False, p_max, p_min, p_abs, Option.bind_some, Option.bind_none, Option.toList_some, Option.toList_none, List.cons_append, List.nil_append, bI_eq0, bI_ne0, bI_ne1, bI_eq1, bI_01, eq_self, true_or, or_true, and_true, true_and, false_and, and_false, false_or, or_false, ite_true, ite_false, if_true, if_false, not_true, not_false_iff, Classical.not_not, nem, ite_not, ne_eq]
      by_cases b : comesF k n far
      · by_cases c : best = -1
        · simp (decide := true) (disch := (first | assumption | omega)) only [b, c, bI_True, bI_False, p_max, p_min, p_abs, Option.bind_some, Option.bind_none, Option.toList_some, Option.toList_none, List.cons_append, List.nil_append, bI_eq0, bI_ne0, bI_ne1, bI_eq1, bI_01, eq_self, true_or, or_true, and_true, true_and, false_and, and_false, false_or, or_false, ite_true, ite_false, if_true, if_false, not_true, not_false_iff, Classical.not_not, nem, ite_not, ne_eq]
        · by_cases w : best ≤ 2 * dn + far * g * hI h (5 + s) k / 100
          · simp (decide := true) (disch := (first | assumption | omega)) only [b, c, w, bI_True, bI_False, p_max, p_min, p_abs, Option.bind_some, Option.bind_none, Option.toList_some, Option.toList_none, List.cons_append, List.nil_append, bI_eq0, bI_ne0, bI_ne1, bI_eq1, bI_01, eq_self, true_or, or_true, and_true, true_and, false_and, and_false, false_or, or_false, ite_true, ite_false, if_true, if_false, not_true, not_false_iff, Classical.not_not, nem, ite_not, ne_eq]
          · simp (decide := true) (disch := (first | assumption | omega)) only [b, c, w, bI_True, bI_False, p_max, p_min, p_abs, Option.bind_some, Option.bind_none, Option.toList_some, Option.toList_none, List.cons_append, List.nil_append, bI_eq0, bI_ne0, bI_ne1, bI_eq1, bI_01, eq_self, true_or, or_true, and_true, true_and, false_and, and_false, false_or, or_false, ite_true, ite_false, if_true, if_false, not_true, not_false_iff, Classical.not_not, nem, ite_not, ne_eq]
      · simp (decide := true) (disch := (first | assumption | omega)) only [b, bI_True, bI_False, p_max, p_min, p_abs, Option.bind_some, Option.bind_none, Option.toList_some, Option.toList_none, List.cons_append, List.nil_append, bI_eq0, bI_ne0, bI_ne1, bI_eq1, bI_01, eq_self, true_or, or_true, and_true, true_and, false_and, and_false, false_or, or_false, ite_true, ite_false, if_true, if_false, not_true, not_false_iff, Classical.not_not, nem, ite_not, ne_eq]
theorem c_least (S : Sh h) {n s : Nat} (hn : hI h 2 2 = nI n) (h5 : n ≤ 5) (hs : s < 2) {far : Int32} : Cl (d + 5) 51 [vr (some 2), vi (nI s), vi far] h = some (some (vi (leastF (hI h 3) (hI h (5 + s)) n far)), h) := by
  rw [E_51, B_51_0]
  exact c_leastL S hn h5 hs n 0 _ _ _ _ (Nat.zero_add n)
theorem m_leastL (T : Sm h) {n s : Nat} (hn : hI h 56 1 = nI n) (h5 : n ≤ 5) (hs : s < 2) {far : Int32} : ∀ (j k : Nat) (best g dn : Int32) (a7 a8 a9 : am_V), k + j = n → Ev (d + 4) 152 13 [vr (some 56), vi (nI s), vi far, vi best, vi dn, vi g, vi (nI k), a7, a8, a9] [] h = some (some (vi (leastL (hI h 57) (fun k => hI h 58 (5 * s + k)) n far j k best g dn)), h) := by
  intro j
  induction j with
  | zero =>
    intro k best g dn a7 a8 a9 e
    simp (decide := true) (disch := (first | assumption | omega)) only [B_152_13, hn, n_leT, B_152_179, leastL, bI_True, bI_False, p_max, p_min, p_abs, Option.bind_some, Option.bind_none, Option.toList_some, Option.toList_none, List.cons_append, List.nil_append, bI_eq0, bI_ne0, bI_ne1, bI_eq1, bI_01, eq_self, true_or, or_true, and_true, true_and, false_and, and_false, false_or, or_false, ite_true, ite_false, if_true, if_false, not_true, not_false_iff, Classical.not_not, nem, ite_not, ne_eq]
  | succ j ih =>
    intro k best g dn a7 a8 a9 e
    rw [B_152_13 T]
    have e5 : (5 : Int32) * nI s = nI (5 * s) := pk_mul 5 s
    have hn1 : hI h 56 1 - 1 = nI (n - 1) := by rw [hn]; exact n_sub (b := 1) (by omega)
    simp (decide := true) (disch := (first | assumption | omega)) only [hn, n_leF, B_152_22, n_ix, n_cl, n_addO, e5, n_add, leastL, bI_True, bI_False, p_max, p_min, p_abs, Option.bind_some, Option.bind_none, Option.toList_some, Option.toList_none, List.cons_append, List.nil_append, bI_eq0, bI_ne0, bI_ne1, bI_eq1, bI_01, eq_self, true_or, or_true, and_true, true_and, false_and, and_false, false_or, or_false, ite_true, ite_false, if_true, if_false, not_true, not_false_iff, Classical.not_not, nem, ite_not, ne_eq]
    by_cases a : hI h 58 (5 * s + k) = 0
    · simp (decide := true) (disch := (first | assumption | omega)) only [a, B_152_179, bI_True, bI_False, p_max, p_min, p_abs, Option.bind_some, Option.bind_none, Option.toList_some, Option.toList_none, List.cons_append, List.nil_append, bI_eq0, bI_ne0, bI_ne1, bI_eq1, bI_01, eq_self, true_or, or_true, and_true, true_and, false_and, and_false, false_or, or_false, ite_true, ite_false, if_true, if_false, not_true, not_false_iff, Classical.not_not, nem, ite_not, ne_eq]
    · simp (decide := true) (disch := (first | assumption | omega)) only [a, bI_True, bI_False, p_max, p_min, p_abs, Option.bind_some, Option.bind_none, Option.toList_some, Option.toList_none, List.cons_append, List.nil_append, bI_eq0, bI_ne0, bI_ne1, bI_eq1, bI_01, eq_self, true_or, or_true, and_true, true_and, false_and, and_false, false_or, or_false, ite_true, ite_false, if_true, if_false, not_true, not_false_iff, Classical.not_not, nem, ite_not, ne_eq]
      simp (decide := true) (disch := (first | assumption | omega)) only [B_152_36, B_152_72, B_152_76, mg_ev, n_ix, n_cl, n_addO, e5, n_add, n_eqO, bI_True, bI_False, p_max, p_min, p_abs, Option.bind_some, Option.bind_none, Option.toList_some, Option.toList_none, List.cons_append, List.nil_append, bI_eq0, bI_ne0, bI_ne1, bI_eq1, bI_01, eq_self, true_or, or_true, and_true, true_and, false_and, and_false, false_or, or_false, ite_true, ite_false, if_true, if_false, not_true, not_false_iff, Classical.not_not, nem, ite_not, ne_eq]
      simp (decide := true) (disch := (first | assumption | omega)) only [B_152_84, B_152_87, B_152_99, B_152_105, mg_ev, n_ix, n_cl, n_eqO, hn1, n_eq, bI_True, bI_False, p_max, p_min, p_abs, Option.bind_some, Option.bind_none, Option.toList_some, Option.toList_none, List.cons_append, List.nil_append, bI_eq0, bI_ne0, bI_ne1, bI_eq1, bI_01, eq_self, true_or, or_true, and_true, true_and, false_and, and_false, false_or, or_false, ite_true, ite_false, if_true, if_false, not_true, not_false_iff, Classical.not_not, nem, ite_not, ne_eq]
      simp (decide := true) (disch := (first | assumption | omega)) only [B_152_113, B_152_116, B_152_120, mg_ev, mg_01, mg_b0, nt_le, bI_True, bI_False, p_max, p_min, p_abs, Option.bind_some, Option.bind_none, Option.toList_some, Option.toList_none, List.cons_append, List.nil_append, bI_eq0, bI_ne0, bI_ne1, bI_eq1, bI_01, eq_self, true_or, or_true, and_true, true_and, false_and, and_false, false_or, or_false, ite_true, ite_false, if_true, if_false, not_true, not_false_iff, Classical.not_not, nem, ite_not, ne_eq]
      rw [show bI ((if k = 0 then 0 else 25 * nI k - 10) ≤ far ∧ far ≤ if k = n - 1 then 180 else 40 + 35 * nI k) = bI (comesF k n far) from bI_cg (by unfold comesF; rw [decide_eq_true_eq])]
      simp (decide := true) (disch := (first | assumption | omega)) only [B_152_121, B_152_128, B_152_133, B_152_139, B_152_144, mg_ev, bI_True, bI_False, p_max, p_min, p_abs, Option.bind_some, Option.bind_none, Option.toList_some, Option.toList_none, List.cons_append, List.nil_append, bI_eq0, bI_ne0, bI_ne1, bI_eq1, bI_01, eq_self, true_or, or_true, and_true, true_and, false_and, and_false, false_or, or_false, ite_true, ite_false, if_true, if_false, not_true, not_false_iff, Classical.not_not, nem, ite_not, ne_eq]
      simp (decide := true) (disch := (first | assumption | omega)) only [B_152_145, n_ix, n_cl, n_addO, ih, bI_True, bI_False, p_max, p_min, p_abs, Option.bind_some, Option.bind_none, Option.toList_some, Option.toList_none, List.cons_append, List.nil_append, bI_eq0, bI_ne0, bI_ne1, bI_eq1, bI_01, eq_self, true_or, or_true, and_true, true_and, false_and, and_false, false_or, or_false, ite_true, ite_false, if_true, if_false, not_true, not_false_iff, Classical.not_not, nem, ite_not, ne_eq]
theorem m_least (T : Sm h) {n s : Nat} (hn : hI h 56 1 = nI n) (h5 : n ≤ 5) (hs : s < 2) {far : Int32} : Cl (d + 4) 152 [vr (some 56), vi (nI s), vi far] h = some (some (vi (leastF (hI h 57) (fun k => hI h 58 (5 * s + k)) n far)), h) := by
  rw [E_152, B_152_0]
  exact m_leastL T hn h5 hs n 0 _ _ _ _ _ _ (Nat.zero_add n)
theorem c_backL (S : Sh h) {n s e : Nat} (hn : hI h 2 2 = nI n) (h5 : n ≤ 5) (hs : s < 2) (he1 : 1 ≤ e) (he : e < n) {far : Int32} : ∀ (j k : Nat) (dn : Int32), k + j = e → Ev (d + 4) 48 27 [vr (some 2), vi (nI s), vi far, vi (nI e), vi dn, vi (nI k)] [] h = some (some (vi (match backL (hI h 3) (hI h (5 + s)) j k dn with
  | none => -1
  | some dn => 2 * dn + far * (hI h (5 + s)) (e - 1))), h) := by
  intro j
  induction j with
  | zero =>
    intro k dn q
    simp (decide := true) (disch := (first | assumption | omega)) only [B_48_27, n_leT, B_48_75, backL, n_ix, n_cl, sh_row S, sh_rowk S, sh_rowl S, n_subO, bI_True, bI_False, p_max, p_min, p_abs, Option.bind_some, Option.bind_none, Option.toList_some, Option.toList_none, List.cons_append, List.nil_append, bI_eq0, bI_ne0, bI_ne1, bI_eq1, bI_01, eq_self, true_or, or_true, and_true, true_and, false_and, and_false, false_or, or_false, ite_true, ite_false, if_true, if_false, not_true, not_false_iff, Classical.not_not, nem, ite_not, ne_eq]
  | succ j ih =>
    intro k dn q
    rw [B_48_27]
    simp (decide := true) (disch := (first | assumption | omega)) only [n_leF, B_48_33, n_ix, n_cl, n_addO, sh_row S, sh_rowk S, sh_rowl S, backL, bI_True, bI_False, p_max, p_min, p_abs, Option.bind_some, Option.bind_none, Option.toList_some, Option.toList_none, List.cons_append, List.nil_append, bI_eq0, bI_ne0, bI_ne1, bI_eq1, bI_01, eq_self, true_or, or_true, and_true, true_and, false_and, and_false, false_or, or_false, ite_true, ite_false, if_true, if_false, not_true, not_false_iff, Classical.not_not, nem, ite_not, ne_eq]
    by_cases a : hI h (5 + s) k = 0
    · simp (decide := true) (disch := (first | assumption | omega)) only [a, B_48_45, bI_True, bI_False, p_max, p_min, p_abs, Option.bind_some, Option.bind_none, Option.toList_some, Option.toList_none, List.cons_append, List.nil_append, bI_eq0, bI_ne0, bI_ne1, bI_eq1, bI_01, eq_self, true_or, or_true, and_true, true_and, false_and, and_false, false_or, or_false, ite_true, ite_false, if_true, if_false, not_true, not_false_iff, Classical.not_not, nem, ite_not, ne_eq]
    · simp (decide := true) (disch := (first | assumption | omega)) only [a, B_48_47, n_ix, n_cl, n_addO, sh_row S, sh_rowk S, sh_rowl S, ih, bI_True, bI_False, p_max, p_min, p_abs, Option.bind_some, Option.bind_none, Option.toList_some, Option.toList_none, List.cons_append, List.nil_append, bI_eq0, bI_ne0, bI_ne1, bI_eq1, bI_01, eq_self, true_or, or_true, and_true, true_and, false_and, and_false, false_or, or_false, ite_true, ite_false, if_true, if_false, not_true, not_false_iff, Classical.not_not, nem, ite_not, ne_eq]
theorem c_back (S : Sh h) {n s : Nat} (hn : hI h 2 2 = nI n) (h5 : n ≤ 5) (hs : s < 2) {far : Int32} (e : Nat) (he : e < 2147483648) : Cl (d + 4) 48 [vr (some 2), vi (nI s), vi far, vi (nI e)] h = some (some (vi (backF (hI h 3) (hI h (5 + s)) n far e)), h) := by
  simp (decide := true) (disch := (first | assumption | omega)) only [E_48, B_48_0, B_48_5, B_48_13, B_48_19, B_48_21, n_ltO, hn, n_le, bI_True, bI_False, p_max, p_min, p_abs, Option.bind_some, Option.bind_none, Option.toList_some, Option.toList_none, List.cons_append, List.nil_append, bI_eq0, bI_ne0, bI_ne1, bI_eq1, bI_01, eq_self, true_or, or_true, and_true, true_and, false_and, and_false, false_or, or_false, ite_true, ite_false, if_true, if_false, not_true, not_false_iff, Classical.not_not, nem, ite_not, ne_eq]
  unfold backF
  by_cases a : 1 ≤ e
  · by_cases b : e < n
    · by_cases c : far ≤ 90
      · simp (decide := true) (disch := (first | assumption | omega)) only [a, b, c, if_neg (show ¬ e < 1 by omega), if_neg (show ¬ n ≤ e by omega), if_pos (show 1 ≤ e ∧ e < n ∧ far ≤ 90 from ⟨a, b, c⟩), bI_True, bI_False, p_max, p_min, p_abs, Option.bind_some, Option.bind_none, Option.toList_some, Option.toList_none, List.cons_append, List.nil_append, bI_eq0, bI_ne0, bI_ne1, bI_eq1, bI_01, eq_self, true_or, or_true, and_true, true_and, false_and, and_false, false_or, or_false, ite_true, ite_false, if_true, if_false, not_true, not_false_iff, Classical.not_not, nem, ite_not, ne_eq]
        exact c_backL S hn h5 hs a b e 0 0 (Nat.zero_add e)
      · simp (decide := true) (disch := (first | assumption | omega)) only [c, if_neg (show ¬ e < 1 by omega), if_neg (show ¬ n ≤ e by omega), bI_True, bI_False, p_max, p_min, p_abs, Option.bind_some, Option.bind_none, Option.toList_some, Option.toList_none, List.cons_append, List.nil_append, bI_eq0, bI_ne0, bI_ne1, bI_eq1, bI_01, eq_self, true_or, or_true, and_true, true_and, false_and, and_false, false_or, or_false, ite_true, ite_false, if_true, if_false, not_true, not_false_iff, Classical.not_not, nem, ite_not, ne_eq]
    · simp (decide := true) (disch := (first | assumption | omega)) only [b, if_neg (show ¬ e < 1 by omega), if_pos (show n ≤ e by omega), bI_True, bI_False, p_max, p_min, p_abs, Option.bind_some, Option.bind_none, Option.toList_some, Option.toList_none, List.cons_append, List.nil_append, bI_eq0, bI_ne0, bI_ne1, bI_eq1, bI_01, eq_self, true_or, or_true, and_true, true_and, false_and, and_false, false_or, or_false, ite_true, ite_false, if_true, if_false, not_true, not_false_iff, Classical.not_not, nem, ite_not, ne_eq]
  · simp (decide := true) (disch := (first | assumption | omega)) only [a, if_pos (show e < 1 by omega), bI_True, bI_False, p_max, p_min, p_abs, Option.bind_some, Option.bind_none, Option.toList_some, Option.toList_none, List.cons_append, List.nil_append, bI_eq0, bI_ne0, bI_ne1, bI_eq1, bI_01, eq_self, true_or, or_true, and_true, true_and, false_and, and_false, false_or, or_false, ite_true, ite_false, if_true, if_false, not_true, not_false_iff, Classical.not_not, nem, ite_not, ne_eq]
theorem c_backm (S : Sh h) {n s : Nat} (hn : hI h 2 2 = nI n) (h5 : n ≤ 5) (hs : s < 2) {far : Int32} : Cl (d + 4) 48 [vr (some 2), vi (nI s), vi far, vi (hI h 2 2 - 1)] h = some (some (vi (backF (hI h 3) (hI h (5 + s)) n far (n - 1))), h) := by
  rw [hn]
  by_cases a : 1 ≤ n
  · rw [n_subO a]
    exact c_back S hn h5 hs _ (by omega)
  · rw [show n = 0 by omega]
    simp (decide := true) (disch := (first | assumption | omega)) only [E_48, B_48_0, B_48_19, show nI 0 - 1 = (-1 : Int32) by decide, backF, bI_True, bI_False, p_max, p_min, p_abs, Option.bind_some, Option.bind_none, Option.toList_some, Option.toList_none, List.cons_append, List.nil_append, bI_eq0, bI_ne0, bI_ne1, bI_eq1, bI_01, eq_self, true_or, or_true, and_true, true_and, false_and, and_false, false_or, or_false, ite_true, ite_false, if_true, if_false, not_true, not_false_iff, Classical.not_not, nem, ite_not, ne_eq]
theorem m_backL (T : Sm h) {n s e : Nat} (hn : hI h 56 1 = nI n) (h5 : n ≤ 5) (hs : s < 2) (he1 : 1 ≤ e) (he : e < n) {far : Int32} : ∀ (j k : Nat) (dn : Int32) (a6 : am_V), k + j = e → Ev (d + 4) 155 27 [vr (some 56), vi (nI s), vi far, vi (nI e), vi (2 * dn), vi (nI k), a6] [] h = some (some (vi (match backL (hI h 57) (fun k => hI h 58 (5 * s + k)) j k dn with
  | none => -1
  | some dn => 2 * dn + far * (hI h 58 (5 * s + (e - 1))))), h) := by
  have e5 : (5 : Int32) * nI s = nI (5 * s) := pk_mul 5 s
  intro j
  induction j with
  | zero =>
    intro k dn a6 q
    simp (decide := true) (disch := (first | assumption | omega)) only [B_155_27, n_leT, B_155_76, backL, n_ix, n_cl, n_subO, e5, n_add, Nat.add_sub_assoc, bI_True, bI_False, p_max, p_min, p_abs, Option.bind_some, Option.bind_none, Option.toList_some, Option.toList_none, List.cons_append, List.nil_append, bI_eq0, bI_ne0, bI_ne1, bI_eq1, bI_01, eq_self, true_or, or_true, and_true, true_and, false_and, and_false, false_or, or_false, ite_true, ite_false, if_true, if_false, not_true, not_false_iff, Classical.not_not, nem, ite_not, ne_eq]
  | succ j ih =>
    intro k dn a6 q
    rw [B_155_27]
    simp (decide := true) (disch := (first | assumption | omega)) only [n_leF, B_155_33, n_ix, n_cl, n_addO, e5, n_add, backL, bI_True, bI_False, p_max, p_min, p_abs, Option.bind_some, Option.bind_none, Option.toList_some, Option.toList_none, List.cons_append, List.nil_append, bI_eq0, bI_ne0, bI_ne1, bI_eq1, bI_01, eq_self, true_or, or_true, and_true, true_and, false_and, and_false, false_or, or_false, ite_true, ite_false, if_true, if_false, not_true, not_false_iff, Classical.not_not, nem, ite_not, ne_eq]
    by_cases a : hI h 58 (5 * s + k) = 0
    · simp (decide := true) (disch := (first | assumption | omega)) only [a, B_155_51, bI_True, bI_False, p_max, p_min, p_abs, Option.bind_some, Option.bind_none, Option.toList_some, Option.toList_none, List.cons_append, List.nil_append, bI_eq0, bI_ne0, bI_ne1, bI_eq1, bI_01, eq_self, true_or, or_true, and_true, true_and, false_and, and_false, false_or, or_false, ite_true, ite_false, if_true, if_false, not_true, not_false_iff, Classical.not_not, nem, ite_not, ne_eq]
    · have i2 := ih (k + 1) (dn + hI h 57 k * hI h 58 (5 * s + k)) (vi (hI h 58 (5 * s + k))) (by omega)
      rw [Int32.mul_add] at i2
      simp (decide := true) (disch := (first | assumption | omega)) only [a, B_155_53, n_ix, n_cl, n_addO, i2, Int32.mul_assoc, bI_True, bI_False, p_max, p_min, p_abs, Option.bind_some, Option.bind_none, Option.toList_some, Option.toList_none, List.cons_append, List.nil_append, bI_eq0, bI_ne0, bI_ne1, bI_eq1, bI_01, eq_self, true_or, or_true, and_true, true_and, false_and, and_false, false_or, or_false, ite_true, ite_false, if_true, if_false, not_true, not_false_iff, Classical.not_not, nem, ite_not, ne_eq]
theorem m_back (T : Sm h) {n s : Nat} (hn : hI h 56 1 = nI n) (h5 : n ≤ 5) (hs : s < 2) {far : Int32} (e : Nat) (he : e < 2147483648) : Cl (d + 4) 155 [vr (some 56), vi (nI s), vi far, vi (nI e)] h = some (some (vi (backF (hI h 57) (fun k => hI h 58 (5 * s + k)) n far e)), h) := by
  simp (decide := true) (disch := (first | assumption | omega)) only [E_155, B_155_0, B_155_5, B_155_13, B_155_19, B_155_21, n_ltO, hn, n_le, bI_True, bI_False, p_max, p_min, p_abs, Option.bind_some, Option.bind_none, Option.toList_some, Option.toList_none, List.cons_append, List.nil_append, bI_eq0, bI_ne0, bI_ne1, bI_eq1, bI_01, eq_self, true_or, or_true, and_true, true_and, false_and, and_false, false_or, or_false, ite_true, ite_false, if_true, if_false, not_true, not_false_iff, Classical.not_not, nem, ite_not, ne_eq]
  unfold backF
  by_cases a : 1 ≤ e
  · by_cases b : e < n
    · by_cases c : far ≤ 90
      · simp (decide := true) (disch := (first | assumption | omega)) only [a, b, c, if_neg (show ¬ e < 1 by omega), if_neg (show ¬ n ≤ e by omega), if_pos (show 1 ≤ e ∧ e < n ∧ far ≤ 90 from ⟨a, b, c⟩), bI_True, bI_False, p_max, p_min, p_abs, Option.bind_some, Option.bind_none, Option.toList_some, Option.toList_none, List.cons_append, List.nil_append, bI_eq0, bI_ne0, bI_ne1, bI_eq1, bI_01, eq_self, true_or, or_true, and_true, true_and, false_and, and_false, false_or, or_false, ite_true, ite_false, if_true, if_false, not_true, not_false_iff, Classical.not_not, nem, ite_not, ne_eq]
        exact m_backL T hn h5 hs a b e 0 0 _ (Nat.zero_add e)
      · simp (decide := true) (disch := (first | assumption | omega)) only [c, if_neg (show ¬ e < 1 by omega), if_neg (show ¬ n ≤ e by omega), bI_True, bI_False, p_max, p_min, p_abs, Option.bind_some, Option.bind_none, Option.toList_some, Option.toList_none, List.cons_append, List.nil_append, bI_eq0, bI_ne0, bI_ne1, bI_eq1, bI_01, eq_self, true_or, or_true, and_true, true_and, false_and, and_false, false_or, or_false, ite_true, ite_false, if_true, if_false, not_true, not_false_iff, Classical.not_not, nem, ite_not, ne_eq]
    · simp (decide := true) (disch := (first | assumption | omega)) only [b, if_neg (show ¬ e < 1 by omega), if_pos (show n ≤ e by omega), bI_True, bI_False, p_max, p_min, p_abs, Option.bind_some, Option.bind_none, Option.toList_some, Option.toList_none, List.cons_append, List.nil_append, bI_eq0, bI_ne0, bI_ne1, bI_eq1, bI_01, eq_self, true_or, or_true, and_true, true_and, false_and, and_false, false_or, or_false, ite_true, ite_false, if_true, if_false, not_true, not_false_iff, Classical.not_not, nem, ite_not, ne_eq]
  · simp (decide := true) (disch := (first | assumption | omega)) only [a, if_pos (show e < 1 by omega), bI_True, bI_False, p_max, p_min, p_abs, Option.bind_some, Option.bind_none, Option.toList_some, Option.toList_none, List.cons_append, List.nil_append, bI_eq0, bI_ne0, bI_ne1, bI_eq1, bI_01, eq_self, true_or, or_true, and_true, true_and, false_and, and_false, false_or, or_false, ite_true, ite_false, if_true, if_false, not_true, not_false_iff, Classical.not_not, nem, ite_not, ne_eq]
theorem m_backm (T : Sm h) {n s : Nat} (hn : hI h 56 1 = nI n) (h5 : n ≤ 5) (hs : s < 2) {far : Int32} : Cl (d + 4) 155 [vr (some 56), vi (nI s), vi far, vi (hI h 56 1 - 1)] h = some (some (vi (backF (hI h 57) (fun k => hI h 58 (5 * s + k)) n far (n - 1))), h) := by
  rw [hn]
  by_cases a : 1 ≤ n
  · rw [n_subO a]
    exact m_back T hn h5 hs _ (by omega)
  · rw [show n = 0 by omega]
    simp (decide := true) (disch := (first | assumption | omega)) only [E_155, B_155_0, B_155_19, show nI 0 - 1 = (-1 : Int32) by decide, backF, bI_True, bI_False, p_max, p_min, p_abs, Option.bind_some, Option.bind_none, Option.toList_some, Option.toList_none, List.cons_append, List.nil_append, bI_eq0, bI_ne0, bI_ne1, bI_eq1, bI_01, eq_self, true_or, or_true, and_true, true_and, false_and, and_false, false_or, or_false, ite_true, ite_false, if_true, if_false, not_true, not_false_iff, Classical.not_not, nem, ite_not, ne_eq]
end BALL
