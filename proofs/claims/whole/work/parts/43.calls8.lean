/-! shadow, feed -/
def fromL (f : Int32 → Int32) : Nat → Nat → Nat
  | 0, a => a
  | j + 1, a => if f (nI a) = -1 then a else fromL f j (a + 1)
def toL (f : Int32 → Int32) : Nat → Nat → Nat
  | 0, a => a
  | j + 1, a => if f (nI (a + 1)) = -1 then toL f j (a + 1) else a
theorem fromL_le (f : Int32 → Int32) : ∀ j a, fromL f j a ≤ a + j := by
  intro j
  induction j with
  | zero => intro a; exact Nat.le_refl _
  | succ j ih =>
    intro a
    rw [fromL]
    split
    · omega
    · have := ih (a + 1); omega
theorem toL_le (f : Int32 → Int32) : ∀ j a, toL f j a ≤ a + j := by
  intro j
  induction j with
  | zero => intro a; exact Nat.le_refl _
  | succ j ih =>
    intro a
    rw [toL]
    split
    · have := ih (a + 1); omega
    · omega
def shadowF (f : Int32 → Int32) (w : Int32) : Int32 := if 180 < fromL f 181 0 then -1 else if w = 0 then nI (fromL f 181 0) else nI (toL f (180 - fromL f 181 0) (fromL f 181 0))
section CALLS8
variable {d : Nat} {h : am_H}
theorem c_shadow (S : Sh h) {f : Int32 → Int32} {s : Int32} (hf : ∀ d x, Cl (d + 5) 51 [vr (some 2), vi s, vi x] h = some (some (vi (f x)), h)) (hs : s = 0 ∨ s = 1) {w : Int32} (hw : 0 ≤ w ∧ w ≤ 1) : Cl (d + 9) 55 [vr (some 1), vi s, vi w] h = some (some (vi (shadowF f w)), h) := by
  have l1 : ∀ j a, a + j = 181 → Ev (d + 9) 55 21 [vr (some 1), vi s, vi w, vi (nI a), vu] [] h = Ev (d + 9) 55 47 [vr (some 1), vi s, vi w, vi (nI (fromL f j a)), vu] [] h := by
    intro j
    induction j with
    | zero =>
      intro a e
      simp (decide := true) (disch := (first | assumption | (simp only [Sh_setI, Sm_setI, Sh_setL, Sm_setL]; assumption) | omega)) only [B_55_21, n_Olt, show 180 < a by omega, fromL, bI_True, bI_False, p_max, p_min, p_abs, Option.bind_some, Option.bind_none, Option.toList_some, Option.toList_none, List.cons_append, List.nil_append, bI_eq0, bI_ne0, bI_ne1, bI_eq1, bI_01, eq_self, true_or, or_true, and_true, true_and, false_and, and_false, false_or, or_false, ite_true, ite_false, if_true, if_false, not_true, not_false_iff, Classical.not_not, nem, ite_not, ne_eq]
    | succ j ih =>
      intro a e
      rw [B_55_21]
      simp (decide := true) (disch := (first | assumption | (simp only [Sh_setI, Sm_setI, Sh_setL, Sm_setL]; assumption) | omega)) only [n_Olt, show ¬ 180 < a by omega, B_55_28, hf, B_55_37, fromL, bI_True, bI_False, p_max, p_min, p_abs, Option.bind_some, Option.bind_none, Option.toList_some, Option.toList_none, List.cons_append, List.nil_append, bI_eq0, bI_ne0, bI_ne1, bI_eq1, bI_01, eq_self, true_or, or_true, and_true, true_and, false_and, and_false, false_or, or_false, ite_true, ite_false, if_true, if_false, not_true, not_false_iff, Classical.not_not, nem, ite_not, ne_eq]
      by_cases q : f (nI a) = -1
      · simp (decide := true) (disch := (first | assumption | (simp only [Sh_setI, Sm_setI, Sh_setL, Sm_setL]; assumption) | omega)) only [q, bI_True, bI_False, p_max, p_min, p_abs, Option.bind_some, Option.bind_none, Option.toList_some, Option.toList_none, List.cons_append, List.nil_append, bI_eq0, bI_ne0, bI_ne1, bI_eq1, bI_01, eq_self, true_or, or_true, and_true, true_and, false_and, and_false, false_or, or_false, ite_true, ite_false, if_true, if_false, not_true, not_false_iff, Classical.not_not, nem, ite_not, ne_eq]
      · simp (decide := true) (disch := (first | assumption | (simp only [Sh_setI, Sm_setI, Sh_setL, Sm_setL]; assumption) | omega)) only [q, B_55_41, n_addO, ih, bI_True, bI_False, p_max, p_min, p_abs, Option.bind_some, Option.bind_none, Option.toList_some, Option.toList_none, List.cons_append, List.nil_append, bI_eq0, bI_ne0, bI_ne1, bI_eq1, bI_01, eq_self, true_or, or_true, and_true, true_and, false_and, and_false, false_or, or_false, ite_true, ite_false, if_true, if_false, not_true, not_false_iff, Classical.not_not, nem, ite_not, ne_eq]
  have l2 : ∀ j a b, a + j = 180 → Ev (d + 9) 55 59 [vr (some 1), vi s, vi w, vi (nI b), vi (nI a)] [] h = Ev (d + 9) 55 89 [vr (some 1), vi s, vi w, vi (nI b), vi (nI (toL f j a))] [] h := by
    intro j
    induction j with
    | zero =>
      intro a b e
      simp (decide := true) (disch := (first | assumption | (simp only [Sh_setI, Sm_setI, Sh_setL, Sm_setL]; assumption) | omega)) only [B_55_59, n_Ole, show 180 ≤ a by omega, toL, bI_True, bI_False, p_max, p_min, p_abs, Option.bind_some, Option.bind_none, Option.toList_some, Option.toList_none, List.cons_append, List.nil_append, bI_eq0, bI_ne0, bI_ne1, bI_eq1, bI_01, eq_self, true_or, or_true, and_true, true_and, false_and, and_false, false_or, or_false, ite_true, ite_false, if_true, if_false, not_true, not_false_iff, Classical.not_not, nem, ite_not, ne_eq]
    | succ j ih =>
      intro a b e
      rw [B_55_59]
      simp (decide := true) (disch := (first | assumption | (simp only [Sh_setI, Sm_setI, Sh_setL, Sm_setL]; assumption) | omega)) only [n_Ole, show ¬ 180 ≤ a by omega, B_55_67, n_addO, hf, B_55_79, toL, bI_True, bI_False, p_max, p_min, p_abs, Option.bind_some, Option.bind_none, Option.toList_some, Option.toList_none, List.cons_append, List.nil_append, bI_eq0, bI_ne0, bI_ne1, bI_eq1, bI_01, eq_self, true_or, or_true, and_true, true_and, false_and, and_false, false_or, or_false, ite_true, ite_false, if_true, if_false, not_true, not_false_iff, Classical.not_not, nem, ite_not, ne_eq]
      by_cases q : f (nI (a + 1)) = -1
      · simp (decide := true) (disch := (first | assumption | (simp only [Sh_setI, Sm_setI, Sh_setL, Sm_setL]; assumption) | omega)) only [q, B_55_83, n_addO, ih, bI_True, bI_False, p_max, p_min, p_abs, Option.bind_some, Option.bind_none, Option.toList_some, Option.toList_none, List.cons_append, List.nil_append, bI_eq0, bI_ne0, bI_ne1, bI_eq1, bI_01, eq_self, true_or, or_true, and_true, true_and, false_and, and_false, false_or, or_false, ite_true, ite_false, if_true, if_false, not_true, not_false_iff, Classical.not_not, nem, ite_not, ne_eq]
      · simp (decide := true) (disch := (first | assumption | (simp only [Sh_setI, Sm_setI, Sh_setL, Sm_setL]; assumption) | omega)) only [q, bI_True, bI_False, p_max, p_min, p_abs, Option.bind_some, Option.bind_none, Option.toList_some, Option.toList_none, List.cons_append, List.nil_append, bI_eq0, bI_ne0, bI_ne1, bI_eq1, bI_01, eq_self, true_or, or_true, and_true, true_and, false_and, and_false, false_or, or_false, ite_true, ite_false, if_true, if_false, not_true, not_false_iff, Classical.not_not, nem, ite_not, ne_eq]
  have e0 := l1 181 0 rfl
  rw [show nI 0 = (0 : Int32) from rfl] at e0
  simp (decide := true) (disch := (first | assumption | (simp only [Sh_setI, Sm_setI, Sh_setL, Sm_setL]; assumption) | omega)) only [E_55, B_55_0, B_55_4, B_55_7, B_55_13, B_55_19, c_isSort, hs, c_isIn, hw, e0, bI_True, bI_False, p_max, p_min, p_abs, Option.bind_some, Option.bind_none, Option.toList_some, Option.toList_none, List.cons_append, List.nil_append, bI_eq0, bI_ne0, bI_ne1, bI_eq1, bI_01, eq_self, true_or, or_true, and_true, true_and, false_and, and_false, false_or, or_false, ite_true, ite_false, if_true, if_false, not_true, not_false_iff, Classical.not_not, nem, ite_not, ne_eq]
  have b1 := fromL_le f 181 0
  unfold shadowF
  by_cases q : 180 < fromL f 181 0
  · simp (decide := true) (disch := (first | assumption | (simp only [Sh_setI, Sm_setI, Sh_setL, Sm_setL]; assumption) | omega)) only [B_55_47, B_55_54, n_leO, show ¬ fromL f 181 0 ≤ 180 by omega, q, bI_True, bI_False, p_max, p_min, p_abs, Option.bind_some, Option.bind_none, Option.toList_some, Option.toList_none, List.cons_append, List.nil_append, bI_eq0, bI_ne0, bI_ne1, bI_eq1, bI_01, eq_self, true_or, or_true, and_true, true_and, false_and, and_false, false_or, or_false, ite_true, ite_false, if_true, if_false, not_true, not_false_iff, Classical.not_not, nem, ite_not, ne_eq]
  · simp (decide := true) (disch := (first | assumption | (simp only [Sh_setI, Sm_setI, Sh_setL, Sm_setL]; assumption) | omega)) only [B_55_47, B_55_56, n_leO, show fromL f 181 0 ≤ 180 by omega, q, l2 (180 - fromL f 181 0) (fromL f 181 0) (fromL f 181 0) (by omega), B_55_89, B_55_93, B_55_97, B_55_99, mg_i, bI_True, bI_False, p_max, p_min, p_abs, Option.bind_some, Option.bind_none, Option.toList_some, Option.toList_none, List.cons_append, List.nil_append, bI_eq0, bI_ne0, bI_ne1, bI_eq1, bI_01, eq_self, true_or, or_true, and_true, true_and, false_and, and_false, false_or, or_false, ite_true, ite_false, if_true, if_false, not_true, not_false_iff, Classical.not_not, nem, ite_not, ne_eq]
theorem m_shadow (T : Sm h) {f : Int32 → Int32} {s : Int32} (hf : ∀ d x, Cl (d + 4) 152 [vr (some 56), vi s, vi x] h = some (some (vi (f x)), h)) (hs : 0 ≤ s ∧ s ≤ 1) {w : Int32} (hw : 0 ≤ w ∧ w ≤ 1) : Cl (d + 9) 156 [vr (some 56), vi s, vi w] h = some (some (vi (shadowF f w)), h) := by
  have l1 : ∀ j a, a + j = 181 → Ev (d + 9) 156 23 [vr (some 56), vi s, vi w, vi (nI a), vu] [] h = Ev (d + 9) 156 46 [vr (some 56), vi s, vi w, vi (nI (fromL f j a)), vu] [] h := by
    intro j
    induction j with
    | zero =>
      intro a e
      simp (decide := true) (disch := (first | assumption | (simp only [Sh_setI, Sm_setI, Sh_setL, Sm_setL]; assumption) | omega)) only [B_156_23, n_Olt, show 180 < a by omega, fromL, bI_True, bI_False, p_max, p_min, p_abs, Option.bind_some, Option.bind_none, Option.toList_some, Option.toList_none, List.cons_append, List.nil_append, bI_eq0, bI_ne0, bI_ne1, bI_eq1, bI_01, eq_self, true_or, or_true, and_true, true_and, false_and, and_false, false_or, or_false, ite_true, ite_false, if_true, if_false, not_true, not_false_iff, Classical.not_not, nem, ite_not, ne_eq]
    | succ j ih =>
      intro a e
      rw [B_156_23]
      simp (decide := true) (disch := (first | assumption | (simp only [Sh_setI, Sm_setI, Sh_setL, Sm_setL]; assumption) | omega)) only [n_Olt, show ¬ 180 < a by omega, B_156_30, hf, B_156_36, fromL, bI_True, bI_False, p_max, p_min, p_abs, Option.bind_some, Option.bind_none, Option.toList_some, Option.toList_none, List.cons_append, List.nil_append, bI_eq0, bI_ne0, bI_ne1, bI_eq1, bI_01, eq_self, true_or, or_true, and_true, true_and, false_and, and_false, false_or, or_false, ite_true, ite_false, if_true, if_false, not_true, not_false_iff, Classical.not_not, nem, ite_not, ne_eq]
      by_cases q : f (nI a) = -1
      · simp (decide := true) (disch := (first | assumption | (simp only [Sh_setI, Sm_setI, Sh_setL, Sm_setL]; assumption) | omega)) only [q, bI_True, bI_False, p_max, p_min, p_abs, Option.bind_some, Option.bind_none, Option.toList_some, Option.toList_none, List.cons_append, List.nil_append, bI_eq0, bI_ne0, bI_ne1, bI_eq1, bI_01, eq_self, true_or, or_true, and_true, true_and, false_and, and_false, false_or, or_false, ite_true, ite_false, if_true, if_false, not_true, not_false_iff, Classical.not_not, nem, ite_not, ne_eq]
      · simp (decide := true) (disch := (first | assumption | (simp only [Sh_setI, Sm_setI, Sh_setL, Sm_setL]; assumption) | omega)) only [q, B_156_40, n_addO, ih, bI_True, bI_False, p_max, p_min, p_abs, Option.bind_some, Option.bind_none, Option.toList_some, Option.toList_none, List.cons_append, List.nil_append, bI_eq0, bI_ne0, bI_ne1, bI_eq1, bI_01, eq_self, true_or, or_true, and_true, true_and, false_and, and_false, false_or, or_false, ite_true, ite_false, if_true, if_false, not_true, not_false_iff, Classical.not_not, nem, ite_not, ne_eq]
  have l2 : ∀ j a b, a + j = 180 → Ev (d + 9) 156 58 [vr (some 56), vi s, vi w, vi (nI b), vi (nI a)] [] h = Ev (d + 9) 156 85 [vr (some 56), vi s, vi w, vi (nI b), vi (nI (toL f j a))] [] h := by
    intro j
    induction j with
    | zero =>
      intro a b e
      simp (decide := true) (disch := (first | assumption | (simp only [Sh_setI, Sm_setI, Sh_setL, Sm_setL]; assumption) | omega)) only [B_156_58, n_Ole, show 180 ≤ a by omega, toL, bI_True, bI_False, p_max, p_min, p_abs, Option.bind_some, Option.bind_none, Option.toList_some, Option.toList_none, List.cons_append, List.nil_append, bI_eq0, bI_ne0, bI_ne1, bI_eq1, bI_01, eq_self, true_or, or_true, and_true, true_and, false_and, and_false, false_or, or_false, ite_true, ite_false, if_true, if_false, not_true, not_false_iff, Classical.not_not, nem, ite_not, ne_eq]
    | succ j ih =>
      intro a b e
      rw [B_156_58]
      simp (decide := true) (disch := (first | assumption | (simp only [Sh_setI, Sm_setI, Sh_setL, Sm_setL]; assumption) | omega)) only [n_Ole, show ¬ 180 ≤ a by omega, B_156_66, n_addO, hf, B_156_75, toL, bI_True, bI_False, p_max, p_min, p_abs, Option.bind_some, Option.bind_none, Option.toList_some, Option.toList_none, List.cons_append, List.nil_append, bI_eq0, bI_ne0, bI_ne1, bI_eq1, bI_01, eq_self, true_or, or_true, and_true, true_and, false_and, and_false, false_or, or_false, ite_true, ite_false, if_true, if_false, not_true, not_false_iff, Classical.not_not, nem, ite_not, ne_eq]
      by_cases q : f (nI (a + 1)) = -1
      · simp (decide := true) (disch := (first | assumption | (simp only [Sh_setI, Sm_setI, Sh_setL, Sm_setL]; assumption) | omega)) only [q, B_156_79, n_addO, ih, bI_True, bI_False, p_max, p_min, p_abs, Option.bind_some, Option.bind_none, Option.toList_some, Option.toList_none, List.cons_append, List.nil_append, bI_eq0, bI_ne0, bI_ne1, bI_eq1, bI_01, eq_self, true_or, or_true, and_true, true_and, false_and, and_false, false_or, or_false, ite_true, ite_false, if_true, if_false, not_true, not_false_iff, Classical.not_not, nem, ite_not, ne_eq]
      · simp (decide := true) (disch := (first | assumption | (simp only [Sh_setI, Sm_setI, Sh_setL, Sm_setL]; assumption) | omega)) only [q, bI_True, bI_False, p_max, p_min, p_abs, Option.bind_some, Option.bind_none, Option.toList_some, Option.toList_none, List.cons_append, List.nil_append, bI_eq0, bI_ne0, bI_ne1, bI_eq1, bI_01, eq_self, true_or, or_true, and_true, true_and, false_and, and_false, false_or, or_false, ite_true, ite_false, if_true, if_false, not_true, not_false_iff, Classical.not_not, nem, ite_not, ne_eq]
  have e0 := l1 181 0 rfl
  rw [show nI 0 = (0 : Int32) from rfl] at e0
  simp (decide := true) (disch := (first | assumption | (simp only [Sh_setI, Sm_setI, Sh_setL, Sm_setL]; assumption) | omega)) only [E_156, B_156_0, B_156_6, B_156_9, B_156_15, B_156_21, hs, m_in, hw, e0, bI_True, bI_False, p_max, p_min, p_abs, Option.bind_some, Option.bind_none, Option.toList_some, Option.toList_none, List.cons_append, List.nil_append, bI_eq0, bI_ne0, bI_ne1, bI_eq1, bI_01, eq_self, true_or, or_true, and_true, true_and, false_and, and_false, false_or, or_false, ite_true, ite_false, if_true, if_false, not_true, not_false_iff, Classical.not_not, nem, ite_not, ne_eq]
  have b1 := fromL_le f 181 0
  unfold shadowF
  by_cases q : 180 < fromL f 181 0
  · simp (decide := true) (disch := (first | assumption | (simp only [Sh_setI, Sm_setI, Sh_setL, Sm_setL]; assumption) | omega)) only [B_156_46, B_156_53, n_leO, show ¬ fromL f 181 0 ≤ 180 by omega, q, bI_True, bI_False, p_max, p_min, p_abs, Option.bind_some, Option.bind_none, Option.toList_some, Option.toList_none, List.cons_append, List.nil_append, bI_eq0, bI_ne0, bI_ne1, bI_eq1, bI_01, eq_self, true_or, or_true, and_true, true_and, false_and, and_false, false_or, or_false, ite_true, ite_false, if_true, if_false, not_true, not_false_iff, Classical.not_not, nem, ite_not, ne_eq]
  · simp (decide := true) (disch := (first | assumption | (simp only [Sh_setI, Sm_setI, Sh_setL, Sm_setL]; assumption) | omega)) only [B_156_46, B_156_55, n_leO, show fromL f 181 0 ≤ 180 by omega, q, l2 (180 - fromL f 181 0) (fromL f 181 0) (fromL f 181 0) (by omega), B_156_85, B_156_89, B_156_93, B_156_95, mg_i, bI_True, bI_False, p_max, p_min, p_abs, Option.bind_some, Option.bind_none, Option.toList_some, Option.toList_none, List.cons_append, List.nil_append, bI_eq0, bI_ne0, bI_ne1, bI_eq1, bI_01, eq_self, true_or, or_true, and_true, true_and, false_and, and_false, false_or, or_false, ite_true, ite_false, if_true, if_false, not_true, not_false_iff, Classical.not_not, nem, ite_not, ne_eq]
theorem s_shadow (R : Rel h) {x w : Int32} : Stq (d + 9) 55 156 [vi x, vi w] h := by
  obtain ⟨S, T, I, C, L⟩ := id R
  have b2 : hI h 2 2 = nI (yN (hI h)) := C.1.2.1.trans I.1.2.1.1
  have q2 : hI h 56 1 = nI (yN (hI h)) := I.1.2.1.1
  have q3 : yN (hI h) ≤ 5 := I.1.2.1.2
  have b0 := C.1.2.2
  rcases in_M x 1 (M := 1) rfl (by decide) with ⟨s, hs, rfl⟩ | hx
  · by_cases hw : 0 ≤ w ∧ w ≤ 1
    · have hr : 0 ≤ nI s ∧ nI s ≤ 1 := ⟨nI_pos' (by omega), nI_le (b := 1) hs (by omega)⟩
      match s, hs with
      | 0, _ =>
        refine stp_same (v := vi (shadowF (fun x => leastF (hI h 57) (hI h 58) (yN (hI h)) x) w)) R (c_shadow S (fun d x => ?_) (Or.inl rfl) hw) (m_shadow T (fun d x => m_least0 T q2 q3) hr hw)
        rw [c_least0 S b2 q3, leastF_cg (fun k hk => (b0 k (by omega)).1) (fun k hk => (b0 k (by omega)).2.1)]
      | 1, _ =>
        refine stp_same (v := vi (shadowF (fun x => leastF (hI h 57) (fun k => hI h 58 (5 + k)) (yN (hI h)) x) w)) R (c_shadow S (fun d x => ?_) (Or.inr rfl) hw) (m_shadow T (fun d x => m_least1 T q2 q3) hr hw)
        rw [c_least1 S b2 q3, leastF_cg (fun k hk => (b0 k (by omega)).1) (fun k hk => (b0 k (by omega)).2.2)]
    · have e01 : (nI s = 0 ∨ nI s = 1) := by
        match s, hs with
        | 0, _ => exact Or.inl rfl
        | 1, _ => exact Or.inr rfl
      exact stp_same (v := vi (-5)) R (by simp (decide := true) (disch := (first | assumption | (simp only [Sh_setI, Sm_setI, Sh_setL, Sm_setL]; assumption) | omega)) only [E_55, B_55_0, B_55_4, c_isSort, bI_True, bI_False, p_max, p_min, p_abs, Option.bind_some, Option.bind_none, Option.toList_some, Option.toList_none, List.cons_append, List.nil_append, bI_eq0, bI_ne0, bI_ne1, bI_eq1, bI_01, eq_self, true_or, or_true, and_true, true_and, false_and, and_false, false_or, or_false, ite_true, ite_false, if_true, if_false, not_true, not_false_iff, Classical.not_not, nem, ite_not, ne_eq]; rw [if_pos e01]; simp (decide := true) (disch := (first | assumption | (simp only [Sh_setI, Sm_setI, Sh_setL, Sm_setL]; assumption) | omega)) only [c_isIn, B_55_7, B_55_13, B_55_16, hw, bI_True, bI_False, p_max, p_min, p_abs, Option.bind_some, Option.bind_none, Option.toList_some, Option.toList_none, List.cons_append, List.nil_append, bI_eq0, bI_ne0, bI_ne1, bI_eq1, bI_01, eq_self, true_or, or_true, and_true, true_and, false_and, and_false, false_or, or_false, ite_true, ite_false, if_true, if_false, not_true, not_false_iff, Classical.not_not, nem, ite_not, ne_eq]) (by simp (decide := true) (disch := (first | assumption | (simp only [Sh_setI, Sm_setI, Sh_setL, Sm_setL]; assumption) | omega)) only [E_156, B_156_0, B_156_6, B_156_9, B_156_15, B_156_18, m_in, n_leO, n_Ole, Nat.zero_le, hs, hw, bI_True, bI_False, p_max, p_min, p_abs, Option.bind_some, Option.bind_none, Option.toList_some, Option.toList_none, List.cons_append, List.nil_append, bI_eq0, bI_ne0, bI_ne1, bI_eq1, bI_01, eq_self, true_or, or_true, and_true, true_and, false_and, and_false, false_or, or_false, ite_true, ite_false, if_true, if_false, not_true, not_false_iff, Classical.not_not, nem, ite_not, ne_eq])
  · have e01 : ¬ (x = 0 ∨ x = 1) := fun w => hx (by rcases w with rfl | rfl <;> decide)
    exact stp_same (v := vi (-5)) R (by simp (decide := true) (disch := (first | assumption | (simp only [Sh_setI, Sm_setI, Sh_setL, Sm_setL]; assumption) | omega)) only [E_55, B_55_0, B_55_4, B_55_16, c_isSort, e01, bI_True, bI_False, p_max, p_min, p_abs, Option.bind_some, Option.bind_none, Option.toList_some, Option.toList_none, List.cons_append, List.nil_append, bI_eq0, bI_ne0, bI_ne1, bI_eq1, bI_01, eq_self, true_or, or_true, and_true, true_and, false_and, and_false, false_or, or_false, ite_true, ite_false, if_true, if_false, not_true, not_false_iff, Classical.not_not, nem, ite_not, ne_eq]) (by simp (decide := true) (disch := (first | assumption | (simp only [Sh_setI, Sm_setI, Sh_setL, Sm_setL]; assumption) | omega)) only [E_156, B_156_0, B_156_6, B_156_18, m_in, hx, bI_True, bI_False, p_max, p_min, p_abs, Option.bind_some, Option.bind_none, Option.toList_some, Option.toList_none, List.cons_append, List.nil_append, bI_eq0, bI_ne0, bI_ne1, bI_eq1, bI_01, eq_self, true_or, or_true, and_true, true_and, false_and, and_false, false_or, or_false, ite_true, ite_false, if_true, if_false, not_true, not_false_iff, Classical.not_not, nem, ite_not, ne_eq])
theorem byte_and (w s : Int64) : ((w >>> s) &&& 255).toInt32 = (w >>> s).toInt32 &&& 255 := by
  rw [Int64.toInt32_and]
  rfl
def byF (w : Int64) (i : Nat) : Int32 := (w >>> (Int32.toInt64 (8 * nI i) &&& 63)).toInt32 &&& 255
theorem byF_n (w : Int64) (i : Nat) : isN (byF w i) 255 := by
  unfold byF
  rw [pk_and _ (m := 255) 8 rfl]
  exact isN_of (by omega) (by omega)
theorem c_append {w : Int64} {a3 : Int32} : ∀ (j : Nat) (h : am_H) (B : Nat), Sh h → hI h 11 1 = nI B → B + j ≤ 160 → ∃ h1, Ev (d + 5) 80 19 [vr (some 11), vl w, vu, vi a3, vi (nI j - 1)] [] h = some (some (vi 1), h1) ∧ Kd 999 h h1 ∧ (∀ a, a ≠ 11 → a ≠ 12 → hI h1 a = hI h a) ∧ (∀ i, hI h1 11 i = if i = 1 then nI (B + j) else hI h 11 i) ∧ ∀ q, hI h1 12 q = if B ≤ q ∧ q < B + j then byF w (j - 1 - (q - B)) else hI h 12 q := by
  intro j
  induction j with
  | zero =>
    intro h B S hB hj
    refine ⟨h, ?_, Kd.rf, fun _ _ _ => rfl, fun i => ?_, fun q => ?_⟩
    · simp (decide := true) (disch := (first | assumption | (simp only [Sh_setI, Sm_setI, Sh_setL, Sm_setL]; assumption) | omega)) only [B_80_19, show nI 0 - 1 = (-1 : Int32) by decide, B_80_58, ne1_0, bI_True, bI_False, p_max, p_min, p_abs, Option.bind_some, Option.bind_none, Option.toList_some, Option.toList_none, List.cons_append, List.nil_append, bI_eq0, bI_ne0, bI_ne1, bI_eq1, bI_01, eq_self, true_or, or_true, and_true, true_and, false_and, and_false, false_or, or_false, ite_true, ite_false, if_true, if_false, not_true, not_false_iff, Classical.not_not, nem, ite_not, ne_eq]
    · split
      · rename_i e; rw [e]; exact hB
      · rfl
    · rw [if_neg (by omega)]
  | succ j ih =>
    intro h B S hB hj
    obtain ⟨h1, e1, K, f1, f2, f3⟩ := ih (setI (setI h 11 1 (nI (B + 1))) 12 B (byF w j)) (B + 1) S.si.si (by rw [hI_ne (by omega), hI_eq, if_pos rfl]) (by omega)
    refine ⟨h1, ?_, ?_, fun a q1 q2 => ?_, fun i => ?_, fun q => ?_⟩
    · rw [nI_pred]
      rw [B_80_19]
      simp (decide := true) (disch := (first | assumption | (simp only [Sh_setI, Sm_setI, Sh_setL, Sm_setL]; assumption) | omega)) only [show (nI j < 0) = False from eq_false (nI_pos (by omega)), B_80_24 S, hB, n_ix, n_cl, n_addO, B_80_52, bI_True, bI_False, p_max, p_min, p_abs, Option.bind_some, Option.bind_none, Option.toList_some, Option.toList_none, List.cons_append, List.nil_append, bI_eq0, bI_ne0, bI_ne1, bI_eq1, bI_01, eq_self, true_or, or_true, and_true, true_and, false_and, and_false, false_or, or_false, ite_true, ite_false, if_true, if_false, not_true, not_false_iff, Classical.not_not, nem, ite_not, ne_eq]
      rw [show nI j + -1 = nI j - 1 by rw [Int32.sub_eq_add_neg]]
      exact e1
    · have K2 : Kd 999 h (setI (setI h 11 1 (nI (B + 1))) 12 B (byF w j)) := (Kd.rf.si (by omega)).si (by omega)
      obtain ⟨a1, a2, a3, a4, a5, a6⟩ := K
      obtain ⟨c1, c2, c3, c4, c5, c6⟩ := K2
      exact ⟨a1.trans c1, a2.trans c2, a3.trans c3, a4.trans c4, a5.trans c5, fun n q1 q2 q3 => (a6 n q1 q2 (by rw [c2]; exact q3)).trans (c6 n q1 q2 q3)⟩
    · rw [f1 a q1 q2, hI_ne (by omega), hI_ne (by omega)]
    · rw [f2, show B + 1 + j = B + (j + 1) by omega, hI_ne (by omega), hI_eq]
      split <;> rfl
    · rw [f3, hI_eq, hI_ne (by omega)]
      by_cases q0 : q = B
      · rw [if_neg (by omega), if_pos q0, if_pos (by omega), q0]
        congr 1; omega
      · rw [if_neg (c := q = B) q0]
        by_cases q1 : B + 1 ≤ q ∧ q < B + 1 + j
        · rw [if_pos q1, if_pos (by omega)]
          congr 1; omega
        · rw [if_neg q1, if_neg (by omega)]
theorem m_append {w : Int64} {a3 : Int32} : ∀ (j : Nat) (h : am_H) (B : Nat), Sm h → hI h 56 22 = nI B → B + j ≤ 160 → ∃ h1, Ev (d + 5) 174 33 [vr (some 56), vl w, vu, vi a3, vi (nI j - 1)] [] h = some (some (vi (nI (B + j))), h1) ∧ Kd 999 h h1 ∧ (∀ a, a ≠ 56 → a ≠ 73 → hI h1 a = hI h a) ∧ (∀ i, hI h1 56 i = if i = 22 then nI (B + j) else hI h 56 i) ∧ ∀ q, hI h1 73 q = if B ≤ q ∧ q < B + j then byF w (j - 1 - (q - B)) else hI h 73 q := by
  intro j
  induction j with
  | zero =>
    intro h B S hB hj
    refine ⟨h, ?_, Kd.rf, fun _ _ _ => rfl, fun i => ?_, fun q => ?_⟩
    · simp (decide := true) (disch := (first | assumption | (simp only [Sh_setI, Sm_setI, Sh_setL, Sm_setL]; assumption) | omega)) only [B_174_33, show nI 0 - 1 = (-1 : Int32) by decide, B_174_75, hB, Nat.add_zero, bI_True, bI_False, p_max, p_min, p_abs, Option.bind_some, Option.bind_none, Option.toList_some, Option.toList_none, List.cons_append, List.nil_append, bI_eq0, bI_ne0, bI_ne1, bI_eq1, bI_01, eq_self, true_or, or_true, and_true, true_and, false_and, and_false, false_or, or_false, ite_true, ite_false, if_true, if_false, not_true, not_false_iff, Classical.not_not, nem, ite_not, ne_eq]
    · split
      · rename_i e; rw [e]; exact hB
      · rfl
    · rw [if_neg (by omega)]
  | succ j ih =>
    intro h B S hB hj
    obtain ⟨h1, e1, K, f1, f2, f3⟩ := ih (setI (setI h 73 B (byF w j)) 56 22 (nI (B + 1))) (B + 1) S.si.si (by rw [hI_eq, if_pos rfl]) (by omega)
    refine ⟨h1, ?_, ?_, fun a q1 q2 => ?_, fun i => ?_, fun q => ?_⟩
    · rw [nI_pred]
      rw [B_174_33]
      simp (decide := true) (disch := (first | assumption | (simp only [Sh_setI, Sm_setI, Sh_setL, Sm_setL]; assumption) | omega)) only [show (nI j < 0) = False from eq_false (nI_pos (by omega)), B_174_38 S, hB, n_ix, n_cl, n_addO, hI_ne, B_174_69, byte_and, bI_True, bI_False, p_max, p_min, p_abs, Option.bind_some, Option.bind_none, Option.toList_some, Option.toList_none, List.cons_append, List.nil_append, bI_eq0, bI_ne0, bI_ne1, bI_eq1, bI_01, eq_self, true_or, or_true, and_true, true_and, false_and, and_false, false_or, or_false, ite_true, ite_false, if_true, if_false, not_true, not_false_iff, Classical.not_not, nem, ite_not, ne_eq]
      rw [show nI j + -1 = nI j - 1 by rw [Int32.sub_eq_add_neg], show B + (j + 1) = B + 1 + j by omega]
      exact e1
    · have K2 : Kd 999 h (setI (setI h 73 B (byF w j)) 56 22 (nI (B + 1))) := (Kd.rf.si (by omega)).si (by omega)
      obtain ⟨a1, a2, a3, a4, a5, a6⟩ := K
      obtain ⟨c1, c2, c3, c4, c5, c6⟩ := K2
      exact ⟨a1.trans c1, a2.trans c2, a3.trans c3, a4.trans c4, a5.trans c5, fun n q1 q2 q3 => (a6 n q1 q2 (by rw [c2]; exact q3)).trans (c6 n q1 q2 q3)⟩
    · rw [f1 a q1 q2, hI_ne (by omega), hI_ne (by omega)]
    · rw [f2, show B + 1 + j = B + (j + 1) by omega, hI_eq]
      split
      · rfl
      · rw [hI_ne (by omega)]
    · rw [f3, hI_ne (by omega), hI_eq]
      by_cases q0 : q = B
      · rw [if_neg (by omega), if_pos q0, if_pos (by omega), q0]
        congr 1; omega
      · rw [if_neg (c := q = B) q0]
        by_cases q1 : B + 1 ≤ q ∧ q < B + 1 + j
        · rw [if_pos q1, if_pos (by omega)]
          congr 1; omega
        · rw [if_neg q1, if_neg (by omega)]
theorem s_feed (R : Rel h) {w : Int64} {n : Int32} : Stq (d + 9) 79 174 [vl w, vi n] h := by
  obtain ⟨S, T, I, C, L⟩ := id R
  have t1 : hI h 11 1 = hI h 56 22 := C.2.2.2.2.1.1.1
  have t2 : hI h 56 22 = nI (yB (hI h)) := I.2.2.2.2.1.1.1.1
  have t3 : yB (hI h) ≤ 160 := I.2.2.2.2.1.1.1.2
  generalize hN : yB (hI h) = B at t2 t3
  rcases isIn_1 (x := n) 8 (M := 8) rfl (by decide) with ⟨n, n1, n2, rfl⟩ | hn
  · have hn : 1 ≤ nI n ∧ nI n ≤ 8 := ⟨nI_le (a := 1) n1 (by omega), nI_le (b := 8) n2 (by omega)⟩
    by_cases hf : B + n ≤ 160
    · obtain ⟨h1, e1, K1, f1, f2, f3⟩ := c_append (d := d + 3) (w := w) (a3 := nI n) n h B S (t1.trans t2) hf
      have T1 : Sm h1 := K1.sm T
      have S1 : Sh h1 := K1.sh S
      obtain ⟨h2, e2, K2, g1, g2, g3⟩ := m_append (d := d + 4) (w := w) (a3 := nI n) n h1 B T1 (by rw [f1 56 (by omega) (by omega)]; exact t2) hf
      have K : Kd 999 h h2 := by
        obtain ⟨a1, a2, a3, a4, a5, a6⟩ := K2
        obtain ⟨c1, c2, c3, c4, c5, c6⟩ := K1
        exact ⟨a1.trans c1, a2.trans c2, a3.trans c3, a4.trans c4, a5.trans c5, fun n q1 q2 q3 => (a6 n q1 q2 (by rw [c2]; exact q3)).trans (c6 n q1 q2 q3)⟩
      have st : ∀ a, a ≠ 11 → a ≠ 12 → a ≠ 56 → a ≠ 73 → hI h2 a = hI h a := fun a q1 q2 q3 q4 => (g1 a q3 q4).trans (f1 a q1 q2)
      have s56 : ∀ i, hI h2 56 i = if i = 22 then nI (B + n) else hI h 56 i := fun i => by rw [g2, f1 56 (by omega) (by omega)]
      have s11 : ∀ i, hI h2 11 i = if i = 1 then nI (B + n) else hI h 11 i := fun i => by rw [g1 11 (by omega) (by omega), f2]
      refine stq_fin (v := vi (nI (B + n))) (h1 := h1) R K (by decide) ?_ ?_ ⟨(by simp (decide := true) (disch := (first | assumption | (simp only [Sh_setI, Sm_setI, Sh_setL, Sm_setL]; assumption) | omega)) only [InvB, yN, hI_ne, hI_eq, st, s56, s11, bI_True, bI_False, p_max, p_min, p_abs, Option.bind_some, Option.bind_none, Option.toList_some, Option.toList_none, List.cons_append, List.nil_append, bI_eq0, bI_ne0, bI_ne1, bI_eq1, bI_01, eq_self, true_or, or_true, and_true, true_and, false_and, and_false, false_or, or_false, ite_true, ite_false, if_true, if_false, not_true, not_false_iff, Classical.not_not, nem, ite_not, ne_eq]; exact I.1), (by simp (decide := true) (disch := (first | assumption | (simp only [Sh_setI, Sm_setI, Sh_setL, Sm_setL]; assumption) | omega)) only [InvD, yD, hI_ne, hI_eq, st, s56, s11, bI_True, bI_False, p_max, p_min, p_abs, Option.bind_some, Option.bind_none, Option.toList_some, Option.toList_none, List.cons_append, List.nil_append, bI_eq0, bI_ne0, bI_ne1, bI_eq1, bI_01, eq_self, true_or, or_true, and_true, true_and, false_and, and_false, false_or, or_false, ite_true, ite_false, if_true, if_false, not_true, not_false_iff, Classical.not_not, nem, ite_not, ne_eq]; exact I.2.1), (by simp (decide := true) (disch := (first | assumption | (simp only [Sh_setI, Sm_setI, Sh_setL, Sm_setL]; assumption) | omega)) only [InvS, yS, hI_ne, hI_eq, st, s56, s11, bI_True, bI_False, p_max, p_min, p_abs, Option.bind_some, Option.bind_none, Option.toList_some, Option.toList_none, List.cons_append, List.nil_append, bI_eq0, bI_ne0, bI_ne1, bI_eq1, bI_01, eq_self, true_or, or_true, and_true, true_and, false_and, and_false, false_or, or_false, ite_true, ite_false, if_true, if_false, not_true, not_false_iff, Classical.not_not, nem, ite_not, ne_eq]; exact I.2.2.1), (by simp (decide := true) (disch := (first | assumption | (simp only [Sh_setI, Sm_setI, Sh_setL, Sm_setL]; assumption) | omega)) only [InvC, yC, yD, yS, yDr, ySh, hI_ne, hI_eq, st, s56, s11, bI_True, bI_False, p_max, p_min, p_abs, Option.bind_some, Option.bind_none, Option.toList_some, Option.toList_none, List.cons_append, List.nil_append, bI_eq0, bI_ne0, bI_ne1, bI_eq1, bI_01, eq_self, true_or, or_true, and_true, true_and, false_and, and_false, false_or, or_false, ite_true, ite_false, if_true, if_false, not_true, not_false_iff, Classical.not_not, nem, ite_not, ne_eq]; exact I.2.2.2.1), ?_, (by simp (decide := true) (disch := (first | assumption | (simp only [Sh_setI, Sm_setI, Sh_setL, Sm_setL]; assumption) | omega)) only [InvI, yN, yD, yS, yC, hI_ne, hI_eq, st, s56, s11, bI_True, bI_False, p_max, p_min, p_abs, Option.bind_some, Option.bind_none, Option.toList_some, Option.toList_none, List.cons_append, List.nil_append, bI_eq0, bI_ne0, bI_ne1, bI_eq1, bI_01, eq_self, true_or, or_true, and_true, true_and, false_and, and_false, false_or, or_false, ite_true, ite_false, if_true, if_false, not_true, not_false_iff, Classical.not_not, nem, ite_not, ne_eq]; exact I.2.2.2.2.2.1), (by simp (decide := true) (disch := (first | assumption | (simp only [Sh_setI, Sm_setI, Sh_setL, Sm_setL]; assumption) | omega)) only [InvH, hI_ne, hI_eq, st, s56, s11, bI_True, bI_False, p_max, p_min, p_abs, Option.bind_some, Option.bind_none, Option.toList_some, Option.toList_none, List.cons_append, List.nil_append, bI_eq0, bI_ne0, bI_ne1, bI_eq1, bI_01, eq_self, true_or, or_true, and_true, true_and, false_and, and_false, false_or, or_false, ite_true, ite_false, if_true, if_false, not_true, not_false_iff, Classical.not_not, nem, ite_not, ne_eq]; exact I.2.2.2.2.2.2)⟩ ⟨(by simp (decide := true) (disch := (first | assumption | (simp only [Sh_setI, Sm_setI, Sh_setL, Sm_setL]; assumption) | omega)) only [CrB, hI_ne, hI_eq, st, s56, s11, bI_True, bI_False, p_max, p_min, p_abs, Option.bind_some, Option.bind_none, Option.toList_some, Option.toList_none, List.cons_append, List.nil_append, bI_eq0, bI_ne0, bI_ne1, bI_eq1, bI_01, eq_self, true_or, or_true, and_true, true_and, false_and, and_false, false_or, or_false, ite_true, ite_false, if_true, if_false, not_true, not_false_iff, Classical.not_not, nem, ite_not, ne_eq]; exact C.1), (Kd.d K (by decide) C.2.1 (by simp (decide := true) (disch := (first | assumption | (simp only [Sh_setI, Sm_setI, Sh_setL, Sm_setL]; assumption) | omega)) only [hI_ne, hI_eq, st, s56, s11, bI_True, bI_False, p_max, p_min, p_abs, Option.bind_some, Option.bind_none, Option.toList_some, Option.toList_none, List.cons_append, List.nil_append, bI_eq0, bI_ne0, bI_ne1, bI_eq1, bI_01, eq_self, true_or, or_true, and_true, true_and, false_and, and_false, false_or, or_false, ite_true, ite_false, if_true, if_false, not_true, not_false_iff, Classical.not_not, nem, ite_not, ne_eq]) (by simp (decide := true) (disch := (first | assumption | (simp only [Sh_setI, Sm_setI, Sh_setL, Sm_setL]; assumption) | omega)) only [hI_ne, hI_eq, st, s56, s11, bI_True, bI_False, p_max, p_min, p_abs, Option.bind_some, Option.bind_none, Option.toList_some, Option.toList_none, List.cons_append, List.nil_append, bI_eq0, bI_ne0, bI_ne1, bI_eq1, bI_01, eq_self, true_or, or_true, and_true, true_and, false_and, and_false, false_or, or_false, ite_true, ite_false, if_true, if_false, not_true, not_false_iff, Classical.not_not, nem, ite_not, ne_eq]) (fun k hk => by simp (decide := true) (disch := (first | assumption | (simp only [Sh_setI, Sm_setI, Sh_setL, Sm_setL]; assumption) | omega)) only [hI_ne, hI_eq, st, s56, s11, bI_True, bI_False, p_max, p_min, p_abs, Option.bind_some, Option.bind_none, Option.toList_some, Option.toList_none, List.cons_append, List.nil_append, bI_eq0, bI_ne0, bI_ne1, bI_eq1, bI_01, eq_self, true_or, or_true, and_true, true_and, false_and, and_false, false_or, or_false, ite_true, ite_false, if_true, if_false, not_true, not_false_iff, Classical.not_not, nem, ite_not, ne_eq]) I.2.1.1.2), (Kd.s K (by decide) C.2.2.1 (by simp (decide := true) (disch := (first | assumption | (simp only [Sh_setI, Sm_setI, Sh_setL, Sm_setL]; assumption) | omega)) only [hI_ne, hI_eq, st, s56, s11, bI_True, bI_False, p_max, p_min, p_abs, Option.bind_some, Option.bind_none, Option.toList_some, Option.toList_none, List.cons_append, List.nil_append, bI_eq0, bI_ne0, bI_ne1, bI_eq1, bI_01, eq_self, true_or, or_true, and_true, true_and, false_and, and_false, false_or, or_false, ite_true, ite_false, if_true, if_false, not_true, not_false_iff, Classical.not_not, nem, ite_not, ne_eq]) (by simp (decide := true) (disch := (first | assumption | (simp only [Sh_setI, Sm_setI, Sh_setL, Sm_setL]; assumption) | omega)) only [hI_ne, hI_eq, st, s56, s11, bI_True, bI_False, p_max, p_min, p_abs, Option.bind_some, Option.bind_none, Option.toList_some, Option.toList_none, List.cons_append, List.nil_append, bI_eq0, bI_ne0, bI_ne1, bI_eq1, bI_01, eq_self, true_or, or_true, and_true, true_and, false_and, and_false, false_or, or_false, ite_true, ite_false, if_true, if_false, not_true, not_false_iff, Classical.not_not, nem, ite_not, ne_eq]) (fun k hk => by simp (decide := true) (disch := (first | assumption | (simp only [Sh_setI, Sm_setI, Sh_setL, Sm_setL]; assumption) | omega)) only [hI_ne, hI_eq, st, s56, s11, bI_True, bI_False, p_max, p_min, p_abs, Option.bind_some, Option.bind_none, Option.toList_some, Option.toList_none, List.cons_append, List.nil_append, bI_eq0, bI_ne0, bI_ne1, bI_eq1, bI_01, eq_self, true_or, or_true, and_true, true_and, false_and, and_false, false_or, or_false, ite_true, ite_false, if_true, if_false, not_true, not_false_iff, Classical.not_not, nem, ite_not, ne_eq]) I.2.2.1.1.2), (Kd.c K (by decide) C.2.2.2.1 (by simp (decide := true) (disch := (first | assumption | (simp only [Sh_setI, Sm_setI, Sh_setL, Sm_setL]; assumption) | omega)) only [hI_ne, hI_eq, st, s56, s11, bI_True, bI_False, p_max, p_min, p_abs, Option.bind_some, Option.bind_none, Option.toList_some, Option.toList_none, List.cons_append, List.nil_append, bI_eq0, bI_ne0, bI_ne1, bI_eq1, bI_01, eq_self, true_or, or_true, and_true, true_and, false_and, and_false, false_or, or_false, ite_true, ite_false, if_true, if_false, not_true, not_false_iff, Classical.not_not, nem, ite_not, ne_eq]) (by simp (decide := true) (disch := (first | assumption | (simp only [Sh_setI, Sm_setI, Sh_setL, Sm_setL]; assumption) | omega)) only [hI_ne, hI_eq, st, s56, s11, bI_True, bI_False, p_max, p_min, p_abs, Option.bind_some, Option.bind_none, Option.toList_some, Option.toList_none, List.cons_append, List.nil_append, bI_eq0, bI_ne0, bI_ne1, bI_eq1, bI_01, eq_self, true_or, or_true, and_true, true_and, false_and, and_false, false_or, or_false, ite_true, ite_false, if_true, if_false, not_true, not_false_iff, Classical.not_not, nem, ite_not, ne_eq]) (fun n q1 q2 => by simp (decide := true) (disch := (first | assumption | (simp only [Sh_setI, Sm_setI, Sh_setL, Sm_setL]; assumption) | omega)) only [hI_ne, st, s56, s11, bI_True, bI_False, p_max, p_min, p_abs, Option.bind_some, Option.bind_none, Option.toList_some, Option.toList_none, List.cons_append, List.nil_append, bI_eq0, bI_ne0, bI_ne1, bI_eq1, bI_01, eq_self, true_or, or_true, and_true, true_and, false_and, and_false, false_or, or_false, ite_true, ite_false, if_true, if_false, not_true, not_false_iff, Classical.not_not, nem, ite_not, ne_eq])), ⟨⟨?_, ?_⟩, ?_, ?_, Kd.t K (by decide) C.2.2.2.2.1.2.2.2 (by simp (decide := true) (disch := (first | assumption | (simp only [Sh_setI, Sm_setI, Sh_setL, Sm_setL]; assumption) | omega)) only [s56, bI_True, bI_False, p_max, p_min, p_abs, Option.bind_some, Option.bind_none, Option.toList_some, Option.toList_none, List.cons_append, List.nil_append, bI_eq0, bI_ne0, bI_ne1, bI_eq1, bI_01, eq_self, true_or, or_true, and_true, true_and, false_and, and_false, false_or, or_false, ite_true, ite_false, if_true, if_false, not_true, not_false_iff, Classical.not_not, nem, ite_not, ne_eq]) (by simp (decide := true) (disch := (first | assumption | (simp only [Sh_setI, Sm_setI, Sh_setL, Sm_setL]; assumption) | omega)) only [st, bI_True, bI_False, p_max, p_min, p_abs, Option.bind_some, Option.bind_none, Option.toList_some, Option.toList_none, List.cons_append, List.nil_append, bI_eq0, bI_ne0, bI_ne1, bI_eq1, bI_01, eq_self, true_or, or_true, and_true, true_and, false_and, and_false, false_or, or_false, ite_true, ite_false, if_true, if_false, not_true, not_false_iff, Classical.not_not, nem, ite_not, ne_eq]) (by simp (decide := true) (disch := (first | assumption | (simp only [Sh_setI, Sm_setI, Sh_setL, Sm_setL]; assumption) | omega)) only [st, bI_True, bI_False, p_max, p_min, p_abs, Option.bind_some, Option.bind_none, Option.toList_some, Option.toList_none, List.cons_append, List.nil_append, bI_eq0, bI_ne0, bI_ne1, bI_eq1, bI_01, eq_self, true_or, or_true, and_true, true_and, false_and, and_false, false_or, or_false, ite_true, ite_false, if_true, if_false, not_true, not_false_iff, Classical.not_not, nem, ite_not, ne_eq])⟩, (by simp (decide := true) (disch := (first | assumption | (simp only [Sh_setI, Sm_setI, Sh_setL, Sm_setL]; assumption) | omega)) only [CrI, hI_ne, hI_eq, st, s56, s11, bI_True, bI_False, p_max, p_min, p_abs, Option.bind_some, Option.bind_none, Option.toList_some, Option.toList_none, List.cons_append, List.nil_append, bI_eq0, bI_ne0, bI_ne1, bI_eq1, bI_01, eq_self, true_or, or_true, and_true, true_and, false_and, and_false, false_or, or_false, ite_true, ite_false, if_true, if_false, not_true, not_false_iff, Classical.not_not, nem, ite_not, ne_eq]; exact C.2.2.2.2.2.1), (fun s hs => by simp (decide := true) (disch := (first | assumption | (simp only [Sh_setI, Sm_setI, Sh_setL, Sm_setL]; assumption) | omega)) only [hI_ne, hI_eq, st, s56, s11, bI_True, bI_False, p_max, p_min, p_abs, Option.bind_some, Option.bind_none, Option.toList_some, Option.toList_none, List.cons_append, List.nil_append, bI_eq0, bI_ne0, bI_ne1, bI_eq1, bI_01, eq_self, true_or, or_true, and_true, true_and, false_and, and_false, false_or, or_false, ite_true, ite_false, if_true, if_false, not_true, not_false_iff, Classical.not_not, nem, ite_not, ne_eq]; exact C.2.2.2.2.2.2.1 s hs), (by simp (decide := true) (disch := (first | assumption | (simp only [Sh_setI, Sm_setI, Sh_setL, Sm_setL]; assumption) | omega)) only [CrW, hI_ne, hI_eq, st, s56, s11, bI_True, bI_False, p_max, p_min, p_abs, Option.bind_some, Option.bind_none, Option.toList_some, Option.toList_none, List.cons_append, List.nil_append, bI_eq0, bI_ne0, bI_ne1, bI_eq1, bI_01, eq_self, true_or, or_true, and_true, true_and, false_and, and_false, false_or, or_false, ite_true, ite_false, if_true, if_false, not_true, not_false_iff, Classical.not_not, nem, ite_not, ne_eq]; exact C.2.2.2.2.2.2.2)⟩
      · simp (decide := true) (disch := (first | assumption | (simp only [Sh_setI, Sm_setI, Sh_setL, Sm_setL]; assumption) | omega)) only [E_79, B_79_0, B_79_7, B_79_10, B_79_13, B_79_22, B_79_25, B_79_35, B_79_37, c_isIn, hn, E_80, B_80_0, B_80_14, t1, t2, n_add, n_leO, hf, e1, f2, bI_True, bI_False, p_max, p_min, p_abs, Option.bind_some, Option.bind_none, Option.toList_some, Option.toList_none, List.cons_append, List.nil_append, bI_eq0, bI_ne0, bI_ne1, bI_eq1, bI_01, eq_self, true_or, or_true, and_true, true_and, false_and, and_false, false_or, or_false, ite_true, ite_false, if_true, if_false, not_true, not_false_iff, Classical.not_not, nem, ite_not, ne_eq]
      · simp (decide := true) (disch := (first | assumption | (simp only [Sh_setI, Sm_setI, Sh_setL, Sm_setL]; assumption) | omega)) only [E_174, B_174_0, B_174_7, B_174_13, B_174_28, m_in, hn, f1, t2, n_add, n_leO, hf, e2, bI_True, bI_False, p_max, p_min, p_abs, Option.bind_some, Option.bind_none, Option.toList_some, Option.toList_none, List.cons_append, List.nil_append, bI_eq0, bI_ne0, bI_ne1, bI_eq1, bI_01, eq_self, true_or, or_true, and_true, true_and, false_and, and_false, false_or, or_false, ite_true, ite_false, if_true, if_false, not_true, not_false_iff, Classical.not_not, nem, ite_not, ne_eq]
      · simp (decide := true) (disch := (first | assumption | (simp only [Sh_setI, Sm_setI, Sh_setL, Sm_setL]; assumption) | omega)) only [InvT, yB, yT, st, s56, cl, n_cl, bI_True, bI_False, p_max, p_min, p_abs, Option.bind_some, Option.bind_none, Option.toList_some, Option.toList_none, List.cons_append, List.nil_append, bI_eq0, bI_ne0, bI_ne1, bI_eq1, bI_01, eq_self, true_or, or_true, and_true, true_and, false_and, and_false, false_or, or_false, ite_true, ite_false, if_true, if_false, not_true, not_false_iff, Classical.not_not, nem, ite_not, ne_eq]
        refine ⟨⟨isN_of hf (by omega), fun k hk => ?_⟩, I.2.2.2.2.1.2⟩
        rw [g3]
        split
        · exact byF_n _ _
        · rw [f1 73 (by omega) (by omega)]
          exact I.2.2.2.2.1.1.2 k (by rw [hN]; omega)
      · simp (decide := true) (disch := (first | assumption | (simp only [Sh_setI, Sm_setI, Sh_setL, Sm_setL]; assumption) | omega)) only [s11, s56, bI_True, bI_False, p_max, p_min, p_abs, Option.bind_some, Option.bind_none, Option.toList_some, Option.toList_none, List.cons_append, List.nil_append, bI_eq0, bI_ne0, bI_ne1, bI_eq1, bI_01, eq_self, true_or, or_true, and_true, true_and, false_and, and_false, false_or, or_false, ite_true, ite_false, if_true, if_false, not_true, not_false_iff, Classical.not_not, nem, ite_not, ne_eq]
      · intro k hk
        rw [show yB (hI h2) = B + n by simp (decide := true) (disch := (first | assumption | (simp only [Sh_setI, Sm_setI, Sh_setL, Sm_setL]; assumption) | omega)) only [yB, s56, cl, n_cl, bI_True, bI_False, p_max, p_min, p_abs, Option.bind_some, Option.bind_none, Option.toList_some, Option.toList_none, List.cons_append, List.nil_append, bI_eq0, bI_ne0, bI_ne1, bI_eq1, bI_01, eq_self, true_or, or_true, and_true, true_and, false_and, and_false, false_or, or_false, ite_true, ite_false, if_true, if_false, not_true, not_false_iff, Classical.not_not, nem, ite_not, ne_eq]] at hk
        rw [g1 12 (by omega) (by omega), f3, g3, f1 73 (by omega) (by omega)]
        split
        · rfl
        · exact C.2.2.2.2.1.1.2 k (by rw [hN]; omega)
      · simp (decide := true) (disch := (first | assumption | (simp only [Sh_setI, Sm_setI, Sh_setL, Sm_setL]; assumption) | omega)) only [st, s56, bI_True, bI_False, p_max, p_min, p_abs, Option.bind_some, Option.bind_none, Option.toList_some, Option.toList_none, List.cons_append, List.nil_append, bI_eq0, bI_ne0, bI_ne1, bI_eq1, bI_01, eq_self, true_or, or_true, and_true, true_and, false_and, and_false, false_or, or_false, ite_true, ite_false, if_true, if_false, not_true, not_false_iff, Classical.not_not, nem, ite_not, ne_eq]; exact C.2.2.2.2.1.2.1
      · simp (decide := true) (disch := (first | assumption | (simp only [Sh_setI, Sm_setI, Sh_setL, Sm_setL]; assumption) | omega)) only [st, s56, bI_True, bI_False, p_max, p_min, p_abs, Option.bind_some, Option.bind_none, Option.toList_some, Option.toList_none, List.cons_append, List.nil_append, bI_eq0, bI_ne0, bI_ne1, bI_eq1, bI_01, eq_self, true_or, or_true, and_true, true_and, false_and, and_false, false_or, or_false, ite_true, ite_false, if_true, if_false, not_true, not_false_iff, Classical.not_not, nem, ite_not, ne_eq]; exact C.2.2.2.2.1.2.2.1
    · exact stp_same (v := vi (-4)) R (by simp (decide := true) (disch := (first | assumption | (simp only [Sh_setI, Sm_setI, Sh_setL, Sm_setL]; assumption) | omega)) only [E_79, B_79_0, B_79_7, B_79_10, B_79_13, B_79_22, B_79_25, B_79_35, B_79_37, c_isIn, hn, E_80, B_80_0, B_80_12, t1, t2, n_add, n_leO, hf, bI_True, bI_False, p_max, p_min, p_abs, Option.bind_some, Option.bind_none, Option.toList_some, Option.toList_none, List.cons_append, List.nil_append, bI_eq0, bI_ne0, bI_ne1, bI_eq1, bI_01, eq_self, true_or, or_true, and_true, true_and, false_and, and_false, false_or, or_false, ite_true, ite_false, if_true, if_false, not_true, not_false_iff, Classical.not_not, nem, ite_not, ne_eq]) (by simp (decide := true) (disch := (first | assumption | (simp only [Sh_setI, Sm_setI, Sh_setL, Sm_setL]; assumption) | omega)) only [E_174, B_174_0, B_174_7, B_174_13, B_174_25, m_in, hn, t2, n_add, n_leO, hf, bI_True, bI_False, p_max, p_min, p_abs, Option.bind_some, Option.bind_none, Option.toList_some, Option.toList_none, List.cons_append, List.nil_append, bI_eq0, bI_ne0, bI_ne1, bI_eq1, bI_01, eq_self, true_or, or_true, and_true, true_and, false_and, and_false, false_or, or_false, ite_true, ite_false, if_true, if_false, not_true, not_false_iff, Classical.not_not, nem, ite_not, ne_eq])
  · exact stp_same (v := vi (-2)) R (by simp (decide := true) (disch := (first | assumption | (simp only [Sh_setI, Sm_setI, Sh_setL, Sm_setL]; assumption) | omega)) only [E_79, B_79_0, B_79_7, B_79_10, B_79_13, B_79_22, B_79_25, B_79_35, B_79_37, c_isIn, hn, bI_True, bI_False, p_max, p_min, p_abs, Option.bind_some, Option.bind_none, Option.toList_some, Option.toList_none, List.cons_append, List.nil_append, bI_eq0, bI_ne0, bI_ne1, bI_eq1, bI_01, eq_self, true_or, or_true, and_true, true_and, false_and, and_false, false_or, or_false, ite_true, ite_false, if_true, if_false, not_true, not_false_iff, Classical.not_not, nem, ite_not, ne_eq]) (by simp (decide := true) (disch := (first | assumption | (simp only [Sh_setI, Sm_setI, Sh_setL, Sm_setL]; assumption) | omega)) only [E_174, B_174_0, B_174_7, B_174_10, m_in, hn, bI_True, bI_False, p_max, p_min, p_abs, Option.bind_some, Option.bind_none, Option.toList_some, Option.toList_none, List.cons_append, List.nil_append, bI_eq0, bI_ne0, bI_ne1, bI_eq1, bI_01, eq_self, true_or, or_true, and_true, true_and, false_and, and_false, false_or, or_false, ite_true, ite_false, if_true, if_false, not_true, not_false_iff, Classical.not_not, nem, ite_not, ne_eq])
end CALLS8
