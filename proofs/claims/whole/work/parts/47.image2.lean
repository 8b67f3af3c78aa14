/-! image: the model's side, and both -/
section IMAGE2
variable {d : Nat} {h : am_H}
theorem m_imSl : ∀ j k h', k + j = 10 → Sm h' → ∃ h1, Ev (d + 6) 210 39 [vr (some 56), vi (nI k)] [] h' = Ev (d + 6) 210 63 [vr (some 56), vi (nI 10)] [] h1 ∧ Fi (fun a => a = 76) h' h1 ∧ ∀ q, hI h1 76 q = if k ≤ q ∧ q < 10 then hI h' 58 q else hI h' 76 q := by
  intro j
  induction j with
  | zero =>
    intro k h' e T
    refine ⟨h', ?_, Fi.rf, fun q => by rw [if_neg (by omega)]⟩
    rw [show k = 10 by omega]
    simp (decide := true) (disch := (first | assumption | (simp only [Sh_setI, Sm_setI, Sh_setL, Sm_setL]; assumption) | omega)) only [B_210_39, n_Ole, bI_True, bI_False, p_max, p_min, p_abs, Option.bind_some, Option.bind_none, Option.toList_some, Option.toList_none, List.cons_append, List.nil_append, bI_eq0, bI_ne0, bI_ne1, bI_eq1, bI_01, eq_self, true_or, or_true, and_true, true_and, false_and, and_false, false_or, or_false, ite_true, ite_false, if_true, if_false, not_true, not_false_iff, Classical.not_not, nem, ite_not, ne_eq]
  | succ j ih =>
    intro k h' e T
    obtain ⟨h1, e1, F1, f⟩ := ih (k + 1) (setI h' 76 k (hI h' 58 k)) (by omega) T.si
    refine ⟨h1, ?_, Fi.tr (Fi.si (P := fun a => a = 76) Fi.rf rfl) F1, fun q => ?_⟩
    · rw [B_210_39]
      simp (decide := true) (disch := (first | assumption | (simp only [Sh_setI, Sm_setI, Sh_setL, Sm_setL]; assumption) | omega)) only [n_Ole, show ¬ 10 ≤ k by omega, B_210_45 T, n_ix, n_cl, n_addO, bI_True, bI_False, p_max, p_min, p_abs, Option.bind_some, Option.bind_none, Option.toList_some, Option.toList_none, List.cons_append, List.nil_append, bI_eq0, bI_ne0, bI_ne1, bI_eq1, bI_01, eq_self, true_or, or_true, and_true, true_and, false_and, and_false, false_or, or_false, ite_true, ite_false, if_true, if_false, not_true, not_false_iff, Classical.not_not, nem, ite_not, ne_eq]
      exact e1
    · rw [f, hI_eq, hI_ne (by omega)]
      by_cases w : q = k
      · rw [if_neg (by omega), if_pos w, if_pos (by omega), w]
      · rw [if_neg w]
        by_cases z : k + 1 ≤ q ∧ q < 10
        · rw [if_pos z, if_pos (by omega)]
        · rw [if_neg z, if_neg (by omega)]
theorem m_imD : ∀ j k h', k + j = 8 → Sm h' → ∃ h1, Ev (d + 6) 210 65 [vr (some 56), vi (nI k)] [] h' = Ev (d + 6) 210 89 [vr (some 56), vi (nI 8)] [] h1 ∧ Fi (fun a => a = 77) h' h1 ∧ ∀ q, hI h1 77 q = if k ≤ q ∧ q < 8 then hI h' 60 q else hI h' 77 q := by
  intro j
  induction j with
  | zero =>
    intro k h' e T
    refine ⟨h', ?_, Fi.rf, fun q => by rw [if_neg (by omega)]⟩
    rw [show k = 8 by omega]
    simp (decide := true) (disch := (first | assumption | (simp only [Sh_setI, Sm_setI, Sh_setL, Sm_setL]; assumption) | omega)) only [B_210_65, n_Ole, bI_True, bI_False, p_max, p_min, p_abs, Option.bind_some, Option.bind_none, Option.toList_some, Option.toList_none, List.cons_append, List.nil_append, bI_eq0, bI_ne0, bI_ne1, bI_eq1, bI_01, eq_self, true_or, or_true, and_true, true_and, false_and, and_false, false_or, or_false, ite_true, ite_false, if_true, if_false, not_true, not_false_iff, Classical.not_not, nem, ite_not, ne_eq]
  | succ j ih =>
    intro k h' e T
    obtain ⟨h1, e1, F1, f⟩ := ih (k + 1) (setI h' 77 k (hI h' 60 k)) (by omega) T.si
    refine ⟨h1, ?_, Fi.tr (Fi.si (P := fun a => a = 77) Fi.rf rfl) F1, fun q => ?_⟩
    · rw [B_210_65]
      simp (decide := true) (disch := (first | assumption | (simp only [Sh_setI, Sm_setI, Sh_setL, Sm_setL]; assumption) | omega)) only [n_Ole, show ¬ 8 ≤ k by omega, B_210_71 T, n_ix, n_cl, n_addO, bI_True, bI_False, p_max, p_min, p_abs, Option.bind_some, Option.bind_none, Option.toList_some, Option.toList_none, List.cons_append, List.nil_append, bI_eq0, bI_ne0, bI_ne1, bI_eq1, bI_01, eq_self, true_or, or_true, and_true, true_and, false_and, and_false, false_or, or_false, ite_true, ite_false, if_true, if_false, not_true, not_false_iff, Classical.not_not, nem, ite_not, ne_eq]
      exact e1
    · rw [f, hI_eq, hI_ne (by omega)]
      by_cases w : q = k
      · rw [if_neg (by omega), if_pos w, if_pos (by omega), w]
      · rw [if_neg w]
        by_cases z : k + 1 ≤ q ∧ q < 8
        · rw [if_pos z, if_pos (by omega)]
        · rw [if_neg z, if_neg (by omega)]
theorem m_imW : ∀ j k h', k + j = 40 → Sm h' → (∀ q, q < 40 → hI h' 72 q = 0 ∨ hI h' 72 q = 1) → ∃ h1, Ev (d + 6) 210 141 [vr (some 56), vi (nI k)] [] h' = Ev (d + 6) 210 165 [vr (some 56), vi (nI 40)] [] h1 ∧ Fi (fun a => a = 81) h' h1 ∧ ∀ q, hI h1 81 q = if k ≤ q ∧ q < 40 then hI h' 72 q else hI h' 81 q := by
  intro j
  induction j with
  | zero =>
    intro k h' e T z
    refine ⟨h', ?_, Fi.rf, fun q => by rw [if_neg (by omega)]⟩
    rw [show k = 40 by omega]
    simp (decide := true) (disch := (first | assumption | (simp only [Sh_setI, Sm_setI, Sh_setL, Sm_setL]; assumption) | omega)) only [B_210_141, n_Ole, bI_True, bI_False, p_max, p_min, p_abs, Option.bind_some, Option.bind_none, Option.toList_some, Option.toList_none, List.cons_append, List.nil_append, bI_eq0, bI_ne0, bI_ne1, bI_eq1, bI_01, eq_self, true_or, or_true, and_true, true_and, false_and, and_false, false_or, or_false, ite_true, ite_false, if_true, if_false, not_true, not_false_iff, Classical.not_not, nem, ite_not, ne_eq]
  | succ j ih =>
    intro k h' e T z
    obtain ⟨h1, e1, F1, f⟩ := ih (k + 1) (setI h' 81 k (hI h' 72 k)) (by omega) T.si (fun q hq => by rw [hI_ne (by omega)]; exact z q hq)
    refine ⟨h1, ?_, Fi.tr (Fi.si (P := fun a => a = 81) Fi.rf rfl) F1, fun q => ?_⟩
    · rw [B_210_141]
      simp (decide := true) (disch := (first | assumption | (simp only [Sh_setI, Sm_setI, Sh_setL, Sm_setL]; assumption) | omega)) only [n_Ole, show ¬ 40 ≤ k by omega, B_210_147 T, n_ix, n_cl, n_addO, z k (show k < 40 by omega), bI_True, bI_False, p_max, p_min, p_abs, Option.bind_some, Option.bind_none, Option.toList_some, Option.toList_none, List.cons_append, List.nil_append, bI_eq0, bI_ne0, bI_ne1, bI_eq1, bI_01, eq_self, true_or, or_true, and_true, true_and, false_and, and_false, false_or, or_false, ite_true, ite_false, if_true, if_false, not_true, not_false_iff, Classical.not_not, nem, ite_not, ne_eq]
      exact e1
    · rw [f, hI_eq, hI_ne (by omega)]
      by_cases w : q = k
      · rw [if_neg (by omega), if_pos w, if_pos (by omega), w]
      · rw [if_neg w]
        by_cases z : k + 1 ≤ q ∧ q < 40
        · rw [if_pos z, if_pos (by omega)]
        · rw [if_neg z, if_neg (by omega)]
theorem m_imS : ∀ j k h', k + j = 6 → Sm h' → ∃ h1, Ev (d + 6) 210 91 [vr (some 56), vi (nI k)] [] h' = Ev (d + 6) 210 139 [vr (some 56), vi (nI 6)] [] h1 ∧ Fi (fun a => a = 78 ∨ a = 79 ∨ a = 80) h' h1 ∧ (∀ q, hI h1 78 q = if k ≤ q ∧ q < 6 then hI h' 62 q else hI h' 78 q) ∧ (∀ q, hI h1 79 q = if k ≤ q ∧ q < 6 then hI h' 63 q else hI h' 79 q) ∧ ∀ q, hI h1 80 q = if k ≤ q ∧ q < 6 then hI h' 64 q else hI h' 80 q := by
  intro j
  induction j with
  | zero =>
    intro k h' e T
    refine ⟨h', ?_, Fi.rf, fun q => by rw [if_neg (by omega)], fun q => by rw [if_neg (by omega)], fun q => by rw [if_neg (by omega)]⟩
    rw [show k = 6 by omega]
    simp (decide := true) (disch := (first | assumption | (simp only [Sh_setI, Sm_setI, Sh_setL, Sm_setL]; assumption) | omega)) only [B_210_91, n_Ole, bI_True, bI_False, p_max, p_min, p_abs, Option.bind_some, Option.bind_none, Option.toList_some, Option.toList_none, List.cons_append, List.nil_append, bI_eq0, bI_ne0, bI_ne1, bI_eq1, bI_01, eq_self, true_or, or_true, and_true, true_and, false_and, and_false, false_or, or_false, ite_true, ite_false, if_true, if_false, not_true, not_false_iff, Classical.not_not, nem, ite_not, ne_eq]
  | succ j ih =>
    intro k h' e T
    obtain ⟨h1, e1, F1, f1, f2, f3⟩ := ih (k + 1) (setI (setI (setI h' 78 k (hI h' 62 k)) 79 k (hI h' 63 k)) 80 k (hI h' 64 k)) (by omega) T.si.si.si
    refine ⟨h1, ?_, Fi.tr (Fi.si (Fi.si (Fi.si (P := fun a => a = 78 ∨ a = 79 ∨ a = 80) Fi.rf (by omega)) (by omega)) (by omega)) F1, fun q => ?_, fun q => ?_, fun q => ?_⟩
    · rw [B_210_91]
      have T2 : Sm (setI (setI h' 78 k (hI h' 62 k)) 79 k (hI h' 63 k)) := T.si.si
      simp (decide := true) (disch := (first | assumption | (simp only [Sh_setI, Sm_setI, Sh_setL, Sm_setL]; assumption) | omega)) only [n_Ole, show ¬ 6 ≤ k by omega, B_210_97 T, n_ix, n_cl, hI_ne, bI_True, bI_False, p_max, p_min, p_abs, Option.bind_some, Option.bind_none, Option.toList_some, Option.toList_none, List.cons_append, List.nil_append, bI_eq0, bI_ne0, bI_ne1, bI_eq1, bI_01, eq_self, true_or, or_true, and_true, true_and, false_and, and_false, false_or, or_false, ite_true, ite_false, if_true, if_false, not_true, not_false_iff, Classical.not_not, nem, ite_not, ne_eq]
      simp (decide := true) (disch := (first | assumption | (simp only [Sh_setI, Sm_setI, Sh_setL, Sm_setL]; assumption) | omega)) only [B_210_121 T2, n_ix, n_cl, hI_ne, n_addO, bI_True, bI_False, p_max, p_min, p_abs, Option.bind_some, Option.bind_none, Option.toList_some, Option.toList_none, List.cons_append, List.nil_append, bI_eq0, bI_ne0, bI_ne1, bI_eq1, bI_01, eq_self, true_or, or_true, and_true, true_and, false_and, and_false, false_or, or_false, ite_true, ite_false, if_true, if_false, not_true, not_false_iff, Classical.not_not, nem, ite_not, ne_eq]
      exact e1
    · rw [f1, hI_ne (show 62 ≠ 80 by omega), hI_ne (show 62 ≠ 79 by omega), hI_ne (show 62 ≠ 78 by omega), hI_ne (show 78 ≠ 80 by omega), hI_ne (show 78 ≠ 79 by omega), hI_eq]
      by_cases w : q = k
      · rw [if_neg (by omega), if_pos w, if_pos (by omega), w]
      · rw [if_neg w]
        by_cases z : k + 1 ≤ q ∧ q < 6
        · rw [if_pos z, if_pos (by omega)]
        · rw [if_neg z, if_neg (by omega)]
    · rw [f2, hI_ne (show 79 ≠ 80 by omega), hI_eq, hI_ne (show 79 ≠ 78 by omega), hI_ne (by omega), hI_ne (by omega), hI_ne (by omega)]
      by_cases w : q = k
      · rw [if_neg (by omega), if_pos w, if_pos (by omega), w]
      · rw [if_neg w]
        by_cases z : k + 1 ≤ q ∧ q < 6
        · rw [if_pos z, if_pos (by omega)]
        · rw [if_neg z, if_neg (by omega)]
    · rw [f3, hI_eq, hI_ne (show 80 ≠ 79 by omega), hI_ne (show 80 ≠ 78 by omega), hI_ne (by omega), hI_ne (by omega), hI_ne (by omega)]
      by_cases w : q = k
      · rw [if_neg (by omega), if_pos w, if_pos (by omega), w]
      · rw [if_neg w]
        by_cases z : k + 1 ≤ q ∧ q < 6
        · rw [if_pos z, if_pos (by omega)]
        · rw [if_neg z, if_neg (by omega)]
abbrev pMm (a : Nat) : Prop := a = 56 ∨ (76 ≤ a ∧ a ≤ 81)
theorem m_image (T : Sm h) (hz : ∀ q, q < 40 → hI h 72 q = 0 ∨ hI h 72 q = 1) : ∃ h1, Cl (d + 6) 210 [vr (some 56)] h = some (some (vi (hI h 56 0)), h1) ∧ Fi pMm h h1 ∧ (∀ q, hI h1 56 q = if q = 35 then hI h 56 12 else if q = 34 then hI h 56 8 else if q = 33 then hI h 56 4 else if q = 32 then hI h 56 1 else if q = 31 then 1 else hI h 56 q) ∧ (∀ q, q < 10 → hI h1 76 q = hI h 58 q) ∧ (∀ q, q < 8 → hI h1 77 q = hI h 60 q) ∧ (∀ q, q < 6 → hI h1 78 q = hI h 62 q ∧ hI h1 79 q = hI h 63 q ∧ hI h1 80 q = hI h 64 q) ∧ ∀ q, q < 40 → hI h1 81 q = hI h 72 q := by
  have T0 : Sm (setI (setI (setI (setI (setI h 56 31 1) 56 32 (hI h 56 1)) 56 33 (hI h 56 4)) 56 34 (hI h 56 8)) 56 35 (hI h 56 12)) := T
  obtain ⟨a1, e1, F1, f1⟩ := m_imSl (d := d) 10 0 _ rfl T0
  obtain ⟨a2, e2, F2, f2⟩ := m_imD (d := d) 8 0 _ rfl (F1.sm T0)
  obtain ⟨a3, e3, F3, f3, f3', f3''⟩ := m_imS (d := d) 6 0 _ rfl (F2.sm (F1.sm T0))
  obtain ⟨a4, e4, F4, f4⟩ := m_imW (d := d) 40 0 _ rfl (F3.sm (F2.sm (F1.sm T0))) (fun q hq => by
    rw [F3.2.2.2.2.2 72 (by omega), F2.2.2.2.2.2 72 (by omega), F1.2.2.2.2.2 72 (by omega)]
    simp (decide := true) (disch := (first | assumption | (simp only [Sh_setI, Sm_setI, Sh_setL, Sm_setL]; assumption) | omega)) only [hI_ne, bI_True, bI_False, p_max, p_min, p_abs, Option.bind_some, Option.bind_none, Option.toList_some, Option.toList_none, List.cons_append, List.nil_append, bI_eq0, bI_ne0, bI_ne1, bI_eq1, bI_01, eq_self, true_or, or_true, and_true, true_and, false_and, and_false, false_or, or_false, ite_true, ite_false, if_true, if_false, not_true, not_false_iff, Classical.not_not, nem, ite_not, ne_eq]
    exact hz q hq)
  have T4 : Sm a4 := F4.sm (F3.sm (F2.sm (F1.sm T0)))
  have F0 : Fi pMm h (setI (setI (setI (setI (setI h 56 31 1) 56 32 (hI h 56 1)) 56 33 (hI h 56 4)) 56 34 (hI h 56 8)) 56 35 (hI h 56 12)) := ((((Fi.rf.si (by omega)).si (by omega)).si (by omega)).si (by omega)).si (by omega)
  have s56 : ∀ q, hI a4 56 q = if q = 35 then hI h 56 12 else if q = 34 then hI h 56 8 else if q = 33 then hI h 56 4 else if q = 32 then hI h 56 1 else if q = 31 then 1 else hI h 56 q := fun q => by
    rw [F4.2.2.2.2.2 56 (by omega), F3.2.2.2.2.2 56 (by omega), F2.2.2.2.2.2 56 (by omega), F1.2.2.2.2.2 56 (by omega), hI_eq, hI_eq, hI_eq, hI_eq, hI_eq]
  refine ⟨a4, ?_, F0.tr ((F1.mono (fun n q => by omega)).tr ((F2.mono (fun n q => by omega)).tr ((F3.mono (fun n q => by omega)).tr (F4.mono (fun n q => by omega))))), s56, fun q hq => ?_, fun q hq => ?_, fun q hq => ⟨?_, ?_, ?_⟩, fun q hq => ?_⟩
  · rw [show nI 0 = (0 : Int32) from rfl] at e1 e2 e3 e4
    simp (decide := true) (disch := (first | assumption | (simp only [Sh_setI, Sm_setI, Sh_setL, Sm_setL]; assumption) | omega)) only [E_210, B_210_0 T, hI_eq, hI_ne, B_210_13, B_210_29, e1, B_210_63, e2, B_210_89, e3, B_210_139, e4, B_210_165 T4, s56, bI_True, bI_False, p_max, p_min, p_abs, Option.bind_some, Option.bind_none, Option.toList_some, Option.toList_none, List.cons_append, List.nil_append, bI_eq0, bI_ne0, bI_ne1, bI_eq1, bI_01, eq_self, true_or, or_true, and_true, true_and, false_and, and_false, false_or, or_false, ite_true, ite_false, if_true, if_false, not_true, not_false_iff, Classical.not_not, nem, ite_not, ne_eq]
  · rw [F4.2.2.2.2.2 76 (by omega), F3.2.2.2.2.2 76 (by omega), F2.2.2.2.2.2 76 (by omega), f1, if_pos (by omega)]
    simp (decide := true) (disch := (first | assumption | (simp only [Sh_setI, Sm_setI, Sh_setL, Sm_setL]; assumption) | omega)) only [hI_ne, bI_True, bI_False, p_max, p_min, p_abs, Option.bind_some, Option.bind_none, Option.toList_some, Option.toList_none, List.cons_append, List.nil_append, bI_eq0, bI_ne0, bI_ne1, bI_eq1, bI_01, eq_self, true_or, or_true, and_true, true_and, false_and, and_false, false_or, or_false, ite_true, ite_false, if_true, if_false, not_true, not_false_iff, Classical.not_not, nem, ite_not, ne_eq]
  · rw [F4.2.2.2.2.2 77 (by omega), F3.2.2.2.2.2 77 (by omega), f2, if_pos (by omega), F1.2.2.2.2.2 60 (by omega)]
    simp (decide := true) (disch := (first | assumption | (simp only [Sh_setI, Sm_setI, Sh_setL, Sm_setL]; assumption) | omega)) only [hI_ne, bI_True, bI_False, p_max, p_min, p_abs, Option.bind_some, Option.bind_none, Option.toList_some, Option.toList_none, List.cons_append, List.nil_append, bI_eq0, bI_ne0, bI_ne1, bI_eq1, bI_01, eq_self, true_or, or_true, and_true, true_and, false_and, and_false, false_or, or_false, ite_true, ite_false, if_true, if_false, not_true, not_false_iff, Classical.not_not, nem, ite_not, ne_eq]
  · rw [F4.2.2.2.2.2 78 (by omega), f3, if_pos (by omega), F2.2.2.2.2.2 62 (by omega), F1.2.2.2.2.2 62 (by omega)]
    simp (decide := true) (disch := (first | assumption | (simp only [Sh_setI, Sm_setI, Sh_setL, Sm_setL]; assumption) | omega)) only [hI_ne, bI_True, bI_False, p_max, p_min, p_abs, Option.bind_some, Option.bind_none, Option.toList_some, Option.toList_none, List.cons_append, List.nil_append, bI_eq0, bI_ne0, bI_ne1, bI_eq1, bI_01, eq_self, true_or, or_true, and_true, true_and, false_and, and_false, false_or, or_false, ite_true, ite_false, if_true, if_false, not_true, not_false_iff, Classical.not_not, nem, ite_not, ne_eq]
  · rw [F4.2.2.2.2.2 79 (by omega), f3', if_pos (by omega), F2.2.2.2.2.2 63 (by omega), F1.2.2.2.2.2 63 (by omega)]
    simp (decide := true) (disch := (first | assumption | (simp only [Sh_setI, Sm_setI, Sh_setL, Sm_setL]; assumption) | omega)) only [hI_ne, bI_True, bI_False, p_max, p_min, p_abs, Option.bind_some, Option.bind_none, Option.toList_some, Option.toList_none, List.cons_append, List.nil_append, bI_eq0, bI_ne0, bI_ne1, bI_eq1, bI_01, eq_self, true_or, or_true, and_true, true_and, false_and, and_false, false_or, or_false, ite_true, ite_false, if_true, if_false, not_true, not_false_iff, Classical.not_not, nem, ite_not, ne_eq]
  · rw [F4.2.2.2.2.2 80 (by omega), f3'', if_pos (by omega), F2.2.2.2.2.2 64 (by omega), F1.2.2.2.2.2 64 (by omega)]
    simp (decide := true) (disch := (first | assumption | (simp only [Sh_setI, Sm_setI, Sh_setL, Sm_setL]; assumption) | omega)) only [hI_ne, bI_True, bI_False, p_max, p_min, p_abs, Option.bind_some, Option.bind_none, Option.toList_some, Option.toList_none, List.cons_append, List.nil_append, bI_eq0, bI_ne0, bI_ne1, bI_eq1, bI_01, eq_self, true_or, or_true, and_true, true_and, false_and, and_false, false_or, or_false, ite_true, ite_false, if_true, if_false, not_true, not_false_iff, Classical.not_not, nem, ite_not, ne_eq]
  · rw [f4, if_pos (by omega), F3.2.2.2.2.2 72 (by omega), F2.2.2.2.2.2 72 (by omega), F1.2.2.2.2.2 72 (by omega)]
    simp (decide := true) (disch := (first | assumption | (simp only [Sh_setI, Sm_setI, Sh_setL, Sm_setL]; assumption) | omega)) only [hI_ne, bI_True, bI_False, p_max, p_min, p_abs, Option.bind_some, Option.bind_none, Option.toList_some, Option.toList_none, List.cons_append, List.nil_append, bI_eq0, bI_ne0, bI_ne1, bI_eq1, bI_01, eq_self, true_or, or_true, and_true, true_and, false_and, and_false, false_or, or_false, ite_true, ite_false, if_true, if_false, not_true, not_false_iff, Classical.not_not, nem, ite_not, ne_eq]
theorem s_image (R : Rel h) : Stq (d + 9) 122 210 [] h := by
  obtain ⟨S, T, I, C, L⟩ := id R
  have b1 : hI h 1 7 = hI h 56 0 := C.1.1
  have n1 : hI h 2 2 = hI h 56 1 := C.1.2.1
  have n2 : hI h 56 1 = nI (yN (hI h)) := I.1.2.1.1
  have n3 : yN (hI h) ≤ 5 := I.1.2.1.2
  have d1 : hI h 1 4 = hI h 56 4 := C.2.1.1
  have d2 : hI h 56 4 = nI (yD (hI h)) := I.2.1.1.1
  have d3 : yD (hI h) ≤ 8 := I.2.1.1.2
  have s1 : hI h 1 5 = hI h 56 8 := C.2.2.1.1
  have s2 : hI h 56 8 = nI (yS (hI h)) := I.2.2.1.1.1
  have s3 : yS (hI h) ≤ 6 := I.2.2.1.1.2
  have q1 : hI h 1 6 = hI h 56 12 := C.2.2.2.1.1
  have q2 : hI h 56 12 = nI (yC (hI h)) := I.2.2.2.1.1.1
  have q3 : yC (hI h) ≤ 40 := I.2.2.2.1.1.2
  have b0 := C.1.2.2
  have w72 : ∀ q, q < 40 → hI h 72 q = 0 ∨ hI h 72 q = 1 := fun q hq => by
    by_cases z : q < yC (hI h)
    · exact (I.2.2.2.1.2.1 q z).2.2.2.2.2.2
    · exact Or.inl (I.2.2.2.1.2.2 q (by omega) hq).2
  have F0 : Fi pIm h (setI (setI (setI (setI h 35 0 1) 35 2 (hI h 56 4)) 35 3 (hI h 56 8)) 35 4 (hI h 56 12)) := (((Fi.rf.si (by omega)).si (by omega)).si (by omega)).si (by omega)
  obtain ⟨a1, e1, F1, x1, x35, x37, x38⟩ := c_keepSlows (d := d + 3) (F0.sh S) (n := yN (hI h)) (by rw [F0.2.2.2.2.2 2 (by omega)]; exact n1.trans n2) n3
  have F01 := F0.tr F1
  have S1 := F01.sh S
  obtain ⟨a2, e2, F2, x2, y39⟩ := c_imD (d := d + 3) S C.2.1 d3 (d1.trans d2) (yD (hI h)) 0 a1 (Nat.zero_add _) F01
  obtain ⟨a3, e3, F3, x3, y40, y41, y42⟩ := c_imS (d := d + 3) S C.2.2.1 s3 (s1.trans s2) (yS (hI h)) 0 a2 (Nat.zero_add _) F2
  obtain ⟨a4, e4, F4, x4, y43⟩ := c_imC (d := d + 3) S C.2.2.2.1 (fun k hk => w72 k (by omega)) q3 (q1.trans q2) (yC (hI h)) 0 a3 (Nat.zero_add _) F3
  have S4 := F4.sh S
  have T4 := F4.sm T
  have h56 : ∀ a, 56 ≤ a → hI a4 a = hI h a := fun a q => F4.2.2.2.2.2 a (by omega)
  obtain ⟨h2, e5, F5, i56, i76, i77, i78, i81⟩ := m_image (d := d + 3) T4 (fun q hq => by rw [h56 72 (by omega)]; exact w72 q hq)
  have c35 : ∀ q, hI a4 35 q = if q = 1 then hI h 56 1 else if q = 4 then hI h 56 12 else if q = 3 then hI h 56 8 else if q = 2 then hI h 56 4 else if q = 0 then 1 else hI h 35 q := fun q => by
    rw [x4 35 (by omega), x3 35 (by omega) (by omega) (by omega), x2 35 (by omega), x35, hI_eq, hI_eq, hI_eq, hI_eq, n2]
  have k37 : ∀ q, q < yN (hI h) → hI a4 37 q = hI h 5 q := fun q hq => by
    rw [x4 37 (by omega), x3 37 (by omega) (by omega) (by omega), x2 37 (by omega), x37 q hq, F0.2.2.2.2.2 5 (by omega)]
  have k38 : ∀ q, q < yN (hI h) → hI a4 38 q = hI h 6 q := fun q hq => by
    rw [x4 38 (by omega), x3 38 (by omega) (by omega) (by omega), x2 38 (by omega), x38 q hq, F0.2.2.2.2.2 6 (by omega)]
  have k39 : ∀ q, q < yD (hI h) → hI a4 39 q = hI h 60 q := fun q hq => by
    rw [x4 39 (by omega), x3 39 (by omega) (by omega) (by omega), y39, if_pos (by omega)]
  have k40 : ∀ q, q < yS (hI h) → hI a4 40 q = hI h 62 q ∧ hI a4 41 q = hI h 63 q ∧ hI a4 42 q = hI h 64 q := fun q hq => by
    rw [x4 40 (by omega), x4 41 (by omega), x4 42 (by omega), y40, y41, y42, if_pos (by omega), if_pos (by omega), if_pos (by omega)]
    exact ⟨rfl, rfl, rfl⟩
  have k43 : ∀ q, q < yC (hI h) → hI a4 43 q = hI h 72 q := fun q hq => by
    rw [y43, if_pos (by omega)]
  have F : Fi (fun a => pIm a ∨ pMm a) h h2 := (F4.mono (fun n q => Or.inl q)).tr (F5.mono (fun n q => Or.inr q))
  have K : Kd 999 h h2 := F.kd (fun n q => by omega)
  have st : ∀ a, ¬ (pIm a ∨ pMm a) → hI h2 a = hI h a := F.2.2.2.2.2
  simp only [h56 56 (by omega)] at i56
  have g76 : ∀ q, q < 10 → hI h2 76 q = hI h 58 q := fun q hq => by rw [i76 q hq, h56 58 (by omega)]
  have g77 : ∀ q, q < 8 → hI h2 77 q = hI h 60 q := fun q hq => by rw [i77 q hq, h56 60 (by omega)]
  have g78 : ∀ q, q < 6 → hI h2 78 q = hI h 62 q ∧ hI h2 79 q = hI h 63 q ∧ hI h2 80 q = hI h 64 q := fun q hq => by
    obtain ⟨z1, z2, z3⟩ := i78 q hq
    rw [z1, z2, z3, h56 62 (by omega), h56 63 (by omega), h56 64 (by omega)]
    exact ⟨rfl, rfl, rfl⟩
  have g81 : ∀ q, q < 40 → hI h2 81 q = hI h 72 q := fun q hq => by rw [i81 q hq, h56 72 (by omega)]
  have c35' : ∀ q, hI h2 35 q = hI a4 35 q := fun q => by rw [F5.2.2.2.2.2 35 (by omega)]
  refine stq_fin (v := vi (hI h 56 0)) (h1 := a4) R K (by decide) ?_ ?_ ⟨(by simp (decide := true) (disch := (first | assumption | (simp only [Sh_setI, Sm_setI, Sh_setL, Sm_setL]; assumption) | omega)) only [InvB, yN, hI_ne, hI_eq, st, i56, bI_True, bI_False, p_max, p_min, p_abs, Option.bind_some, Option.bind_none, Option.toList_some, Option.toList_none, List.cons_append, List.nil_append, bI_eq0, bI_ne0, bI_ne1, bI_eq1, bI_01, eq_self, true_or, or_true, and_true, true_and, false_and, and_false, false_or, or_false, ite_true, ite_false, if_true, if_false, not_true, not_false_iff, Classical.not_not, nem, ite_not, ne_eq]; exact I.1), (by simp (decide := true) (disch := (first | assumption | (simp only [Sh_setI, Sm_setI, Sh_setL, Sm_setL]; assumption) | omega)) only [InvD, yD, hI_ne, hI_eq, st, i56, bI_True, bI_False, p_max, p_min, p_abs, Option.bind_some, Option.bind_none, Option.toList_some, Option.toList_none, List.cons_append, List.nil_append, bI_eq0, bI_ne0, bI_ne1, bI_eq1, bI_01, eq_self, true_or, or_true, and_true, true_and, false_and, and_false, false_or, or_false, ite_true, ite_false, if_true, if_false, not_true, not_false_iff, Classical.not_not, nem, ite_not, ne_eq]; exact I.2.1), (by simp (decide := true) (disch := (first | assumption | (simp only [Sh_setI, Sm_setI, Sh_setL, Sm_setL]; assumption) | omega)) only [InvS, yS, hI_ne, hI_eq, st, i56, bI_True, bI_False, p_max, p_min, p_abs, Option.bind_some, Option.bind_none, Option.toList_some, Option.toList_none, List.cons_append, List.nil_append, bI_eq0, bI_ne0, bI_ne1, bI_eq1, bI_01, eq_self, true_or, or_true, and_true, true_and, false_and, and_false, false_or, or_false, ite_true, ite_false, if_true, if_false, not_true, not_false_iff, Classical.not_not, nem, ite_not, ne_eq]; exact I.2.2.1), (by simp (decide := true) (disch := (first | assumption | (simp only [Sh_setI, Sm_setI, Sh_setL, Sm_setL]; assumption) | omega)) only [InvC, yC, yD, yS, yDr, ySh, hI_ne, hI_eq, st, i56, bI_True, bI_False, p_max, p_min, p_abs, Option.bind_some, Option.bind_none, Option.toList_some, Option.toList_none, List.cons_append, List.nil_append, bI_eq0, bI_ne0, bI_ne1, bI_eq1, bI_01, eq_self, true_or, or_true, and_true, true_and, false_and, and_false, false_or, or_false, ite_true, ite_false, if_true, if_false, not_true, not_false_iff, Classical.not_not, nem, ite_not, ne_eq]; exact I.2.2.2.1), (by simp (decide := true) (disch := (first | assumption | (simp only [Sh_setI, Sm_setI, Sh_setL, Sm_setL]; assumption) | omega)) only [InvT, yB, yT, hI_ne, hI_eq, st, i56, bI_True, bI_False, p_max, p_min, p_abs, Option.bind_some, Option.bind_none, Option.toList_some, Option.toList_none, List.cons_append, List.nil_append, bI_eq0, bI_ne0, bI_ne1, bI_eq1, bI_01, eq_self, true_or, or_true, and_true, true_and, false_and, and_false, false_or, or_false, ite_true, ite_false, if_true, if_false, not_true, not_false_iff, Classical.not_not, nem, ite_not, ne_eq]; exact I.2.2.2.2.1), ?_, (by simp (decide := true) (disch := (first | assumption | (simp only [Sh_setI, Sm_setI, Sh_setL, Sm_setL]; assumption) | omega)) only [InvH, hI_ne, hI_eq, st, i56, bI_True, bI_False, p_max, p_min, p_abs, Option.bind_some, Option.bind_none, Option.toList_some, Option.toList_none, List.cons_append, List.nil_append, bI_eq0, bI_ne0, bI_ne1, bI_eq1, bI_01, eq_self, true_or, or_true, and_true, true_and, false_and, and_false, false_or, or_false, ite_true, ite_false, if_true, if_false, not_true, not_false_iff, Classical.not_not, nem, ite_not, ne_eq]; exact I.2.2.2.2.2.2)⟩ ⟨(by simp (decide := true) (disch := (first | assumption | (simp only [Sh_setI, Sm_setI, Sh_setL, Sm_setL]; assumption) | omega)) only [CrB, hI_ne, hI_eq, st, i56, bI_True, bI_False, p_max, p_min, p_abs, Option.bind_some, Option.bind_none, Option.toList_some, Option.toList_none, List.cons_append, List.nil_append, bI_eq0, bI_ne0, bI_ne1, bI_eq1, bI_01, eq_self, true_or, or_true, and_true, true_and, false_and, and_false, false_or, or_false, ite_true, ite_false, if_true, if_false, not_true, not_false_iff, Classical.not_not, nem, ite_not, ne_eq]; exact C.1), (Kd.d K (by decide) C.2.1 (by simp (decide := true) (disch := (first | assumption | (simp only [Sh_setI, Sm_setI, Sh_setL, Sm_setL]; assumption) | omega)) only [hI_ne, hI_eq, st, i56, bI_True, bI_False, p_max, p_min, p_abs, Option.bind_some, Option.bind_none, Option.toList_some, Option.toList_none, List.cons_append, List.nil_append, bI_eq0, bI_ne0, bI_ne1, bI_eq1, bI_01, eq_self, true_or, or_true, and_true, true_and, false_and, and_false, false_or, or_false, ite_true, ite_false, if_true, if_false, not_true, not_false_iff, Classical.not_not, nem, ite_not, ne_eq]) (by simp (decide := true) (disch := (first | assumption | (simp only [Sh_setI, Sm_setI, Sh_setL, Sm_setL]; assumption) | omega)) only [hI_ne, hI_eq, st, i56, bI_True, bI_False, p_max, p_min, p_abs, Option.bind_some, Option.bind_none, Option.toList_some, Option.toList_none, List.cons_append, List.nil_append, bI_eq0, bI_ne0, bI_ne1, bI_eq1, bI_01, eq_self, true_or, or_true, and_true, true_and, false_and, and_false, false_or, or_false, ite_true, ite_false, if_true, if_false, not_true, not_false_iff, Classical.not_not, nem, ite_not, ne_eq]) (fun k hk => by simp (decide := true) (disch := (first | assumption | (simp only [Sh_setI, Sm_setI, Sh_setL, Sm_setL]; assumption) | omega)) only [hI_ne, hI_eq, st, i56, bI_True, bI_False, p_max, p_min, p_abs, Option.bind_some, Option.bind_none, Option.toList_some, Option.toList_none, List.cons_append, List.nil_append, bI_eq0, bI_ne0, bI_ne1, bI_eq1, bI_01, eq_self, true_or, or_true, and_true, true_and, false_and, and_false, false_or, or_false, ite_true, ite_false, if_true, if_false, not_true, not_false_iff, Classical.not_not, nem, ite_not, ne_eq]) I.2.1.1.2), (Kd.s K (by decide) C.2.2.1 (by simp (decide := true) (disch := (first | assumption | (simp only [Sh_setI, Sm_setI, Sh_setL, Sm_setL]; assumption) | omega)) only [hI_ne, hI_eq, st, i56, bI_True, bI_False, p_max, p_min, p_abs, Option.bind_some, Option.bind_none, Option.toList_some, Option.toList_none, List.cons_append, List.nil_append, bI_eq0, bI_ne0, bI_ne1, bI_eq1, bI_01, eq_self, true_or, or_true, and_true, true_and, false_and, and_false, false_or, or_false, ite_true, ite_false, if_true, if_false, not_true, not_false_iff, Classical.not_not, nem, ite_not, ne_eq]) (by simp (decide := true) (disch := (first | assumption | (simp only [Sh_setI, Sm_setI, Sh_setL, Sm_setL]; assumption) | omega)) only [hI_ne, hI_eq, st, i56, bI_True, bI_False, p_max, p_min, p_abs, Option.bind_some, Option.bind_none, Option.toList_some, Option.toList_none, List.cons_append, List.nil_append, bI_eq0, bI_ne0, bI_ne1, bI_eq1, bI_01, eq_self, true_or, or_true, and_true, true_and, false_and, and_false, false_or, or_false, ite_true, ite_false, if_true, if_false, not_true, not_false_iff, Classical.not_not, nem, ite_not, ne_eq]) (fun k hk => by simp (decide := true) (disch := (first | assumption | (simp only [Sh_setI, Sm_setI, Sh_setL, Sm_setL]; assumption) | omega)) only [hI_ne, hI_eq, st, i56, bI_True, bI_False, p_max, p_min, p_abs, Option.bind_some, Option.bind_none, Option.toList_some, Option.toList_none, List.cons_append, List.nil_append, bI_eq0, bI_ne0, bI_ne1, bI_eq1, bI_01, eq_self, true_or, or_true, and_true, true_and, false_and, and_false, false_or, or_false, ite_true, ite_false, if_true, if_false, not_true, not_false_iff, Classical.not_not, nem, ite_not, ne_eq]) I.2.2.1.1.2), (Kd.c K (by decide) C.2.2.2.1 (by simp (decide := true) (disch := (first | assumption | (simp only [Sh_setI, Sm_setI, Sh_setL, Sm_setL]; assumption) | omega)) only [hI_ne, hI_eq, st, i56, bI_True, bI_False, p_max, p_min, p_abs, Option.bind_some, Option.bind_none, Option.toList_some, Option.toList_none, List.cons_append, List.nil_append, bI_eq0, bI_ne0, bI_ne1, bI_eq1, bI_01, eq_self, true_or, or_true, and_true, true_and, false_and, and_false, false_or, or_false, ite_true, ite_false, if_true, if_false, not_true, not_false_iff, Classical.not_not, nem, ite_not, ne_eq]) (by simp (decide := true) (disch := (first | assumption | (simp only [Sh_setI, Sm_setI, Sh_setL, Sm_setL]; assumption) | omega)) only [hI_ne, hI_eq, st, i56, bI_True, bI_False, p_max, p_min, p_abs, Option.bind_some, Option.bind_none, Option.toList_some, Option.toList_none, List.cons_append, List.nil_append, bI_eq0, bI_ne0, bI_ne1, bI_eq1, bI_01, eq_self, true_or, or_true, and_true, true_and, false_and, and_false, false_or, or_false, ite_true, ite_false, if_true, if_false, not_true, not_false_iff, Classical.not_not, nem, ite_not, ne_eq]) (fun n q1 q2 => by simp (decide := true) (disch := (first | assumption | (simp only [Sh_setI, Sm_setI, Sh_setL, Sm_setL]; assumption) | omega)) only [hI_ne, st, i56, bI_True, bI_False, p_max, p_min, p_abs, Option.bind_some, Option.bind_none, Option.toList_some, Option.toList_none, List.cons_append, List.nil_append, bI_eq0, bI_ne0, bI_ne1, bI_eq1, bI_01, eq_self, true_or, or_true, and_true, true_and, false_and, and_false, false_or, or_false, ite_true, ite_false, if_true, if_false, not_true, not_false_iff, Classical.not_not, nem, ite_not, ne_eq])), ⟨(by simp (decide := true) (disch := (first | assumption | (simp only [Sh_setI, Sm_setI, Sh_setL, Sm_setL]; assumption) | omega)) only [yB, hI_ne, hI_eq, st, i56, bI_True, bI_False, p_max, p_min, p_abs, Option.bind_some, Option.bind_none, Option.toList_some, Option.toList_none, List.cons_append, List.nil_append, bI_eq0, bI_ne0, bI_ne1, bI_eq1, bI_01, eq_self, true_or, or_true, and_true, true_and, false_and, and_false, false_or, or_false, ite_true, ite_false, if_true, if_false, not_true, not_false_iff, Classical.not_not, nem, ite_not, ne_eq]; exact C.2.2.2.2.1.1), (by simp (decide := true) (disch := (first | assumption | (simp only [Sh_setI, Sm_setI, Sh_setL, Sm_setL]; assumption) | omega)) only [hI_ne, hI_eq, st, i56, bI_True, bI_False, p_max, p_min, p_abs, Option.bind_some, Option.bind_none, Option.toList_some, Option.toList_none, List.cons_append, List.nil_append, bI_eq0, bI_ne0, bI_ne1, bI_eq1, bI_01, eq_self, true_or, or_true, and_true, true_and, false_and, and_false, false_or, or_false, ite_true, ite_false, if_true, if_false, not_true, not_false_iff, Classical.not_not, nem, ite_not, ne_eq]; exact C.2.2.2.2.1.2.1), (by simp (decide := true) (disch := (first | assumption | (simp only [Sh_setI, Sm_setI, Sh_setL, Sm_setL]; assumption) | omega)) only [hI_ne, hI_eq, st, i56, bI_True, bI_False, p_max, p_min, p_abs, Option.bind_some, Option.bind_none, Option.toList_some, Option.toList_none, List.cons_append, List.nil_append, bI_eq0, bI_ne0, bI_ne1, bI_eq1, bI_01, eq_self, true_or, or_true, and_true, true_and, false_and, and_false, false_or, or_false, ite_true, ite_false, if_true, if_false, not_true, not_false_iff, Classical.not_not, nem, ite_not, ne_eq]; exact C.2.2.2.2.1.2.2.1), Kd.t K (by decide) C.2.2.2.2.1.2.2.2 (by simp (decide := true) (disch := (first | assumption | (simp only [Sh_setI, Sm_setI, Sh_setL, Sm_setL]; assumption) | omega)) only [hI_ne, hI_eq, st, i56, bI_True, bI_False, p_max, p_min, p_abs, Option.bind_some, Option.bind_none, Option.toList_some, Option.toList_none, List.cons_append, List.nil_append, bI_eq0, bI_ne0, bI_ne1, bI_eq1, bI_01, eq_self, true_or, or_true, and_true, true_and, false_and, and_false, false_or, or_false, ite_true, ite_false, if_true, if_false, not_true, not_false_iff, Classical.not_not, nem, ite_not, ne_eq]) (by simp (decide := true) (disch := (first | assumption | (simp only [Sh_setI, Sm_setI, Sh_setL, Sm_setL]; assumption) | omega)) only [hI_ne, hI_eq, st, i56, bI_True, bI_False, p_max, p_min, p_abs, Option.bind_some, Option.bind_none, Option.toList_some, Option.toList_none, List.cons_append, List.nil_append, bI_eq0, bI_ne0, bI_ne1, bI_eq1, bI_01, eq_self, true_or, or_true, and_true, true_and, false_and, and_false, false_or, or_false, ite_true, ite_false, if_true, if_false, not_true, not_false_iff, Classical.not_not, nem, ite_not, ne_eq]) (by simp (decide := true) (disch := (first | assumption | (simp only [Sh_setI, Sm_setI, Sh_setL, Sm_setL]; assumption) | omega)) only [hI_ne, hI_eq, st, i56, bI_True, bI_False, p_max, p_min, p_abs, Option.bind_some, Option.bind_none, Option.toList_some, Option.toList_none, List.cons_append, List.nil_append, bI_eq0, bI_ne0, bI_ne1, bI_eq1, bI_01, eq_self, true_or, or_true, and_true, true_and, false_and, and_false, false_or, or_false, ite_true, ite_false, if_true, if_false, not_true, not_false_iff, Classical.not_not, nem, ite_not, ne_eq])⟩, ?_, (fun s hs => by simp (decide := true) (disch := (first | assumption | (simp only [Sh_setI, Sm_setI, Sh_setL, Sm_setL]; assumption) | omega)) only [hI_ne, hI_eq, st, i56, bI_True, bI_False, p_max, p_min, p_abs, Option.bind_some, Option.bind_none, Option.toList_some, Option.toList_none, List.cons_append, List.nil_append, bI_eq0, bI_ne0, bI_ne1, bI_eq1, bI_01, eq_self, true_or, or_true, and_true, true_and, false_and, and_false, false_or, or_false, ite_true, ite_false, if_true, if_false, not_true, not_false_iff, Classical.not_not, nem, ite_not, ne_eq]; exact C.2.2.2.2.2.2.1 s hs), (by simp (decide := true) (disch := (first | assumption | (simp only [Sh_setI, Sm_setI, Sh_setL, Sm_setL]; assumption) | omega)) only [CrW, hI_ne, hI_eq, st, i56, bI_True, bI_False, p_max, p_min, p_abs, Option.bind_some, Option.bind_none, Option.toList_some, Option.toList_none, List.cons_append, List.nil_append, bI_eq0, bI_ne0, bI_ne1, bI_eq1, bI_01, eq_self, true_or, or_true, and_true, true_and, false_and, and_false, false_or, or_false, ite_true, ite_false, if_true, if_false, not_true, not_false_iff, Classical.not_not, nem, ite_not, ne_eq]; exact C.2.2.2.2.2.2.2)⟩
  · rw [show nI 0 = (0 : Int32) from rfl] at e2 e3 e4
    simp (decide := true) (disch := (first | assumption | (simp only [Sh_setI, Sm_setI, Sh_setL, Sm_setL]; assumption) | omega)) only [E_122, B_122_0 S, E_123, B_123_0, B_123_10, B_123_20, d1, s1, q1, bI_True, bI_False, p_max, p_min, p_abs, Option.bind_some, Option.bind_none, Option.toList_some, Option.toList_none, List.cons_append, List.nil_append, bI_eq0, bI_ne0, bI_ne1, bI_eq1, bI_01, eq_self, true_or, or_true, and_true, true_and, false_and, and_false, false_or, or_false, ite_true, ite_false, if_true, if_false, not_true, not_false_iff, Classical.not_not, nem, ite_not, ne_eq]
    simp (decide := true) (disch := (first | assumption | (simp only [Sh_setI, Sm_setI, Sh_setL, Sm_setL]; assumption) | omega)) only [B_122_19, F0.sh S, e1, B_122_30, e2, B_122_58, e3, B_122_86, e4, B_122_115, S4, F4.2.2.2.2.2 1 (by omega), b1, bI_True, bI_False, p_max, p_min, p_abs, Option.bind_some, Option.bind_none, Option.toList_some, Option.toList_none, List.cons_append, List.nil_append, bI_eq0, bI_ne0, bI_ne1, bI_eq1, bI_01, eq_self, true_or, or_true, and_true, true_and, false_and, and_false, false_or, or_false, ite_true, ite_false, if_true, if_false, not_true, not_false_iff, Classical.not_not, nem, ite_not, ne_eq]
  · rw [e5, h56 56 (by omega)]
  · simp (decide := true) (disch := (first | assumption | (simp only [Sh_setI, Sm_setI, Sh_setL, Sm_setL]; assumption) | omega)) only [InvI, yN, yD, yS, yC, st, i56, bI_True, bI_False, p_max, p_min, p_abs, Option.bind_some, Option.bind_none, Option.toList_some, Option.toList_none, List.cons_append, List.nil_append, bI_eq0, bI_ne0, bI_ne1, bI_eq1, bI_01, eq_self, true_or, or_true, and_true, true_and, false_and, and_false, false_or, or_false, ite_true, ite_false, if_true, if_false, not_true, not_false_iff, Classical.not_not, nem, ite_not, ne_eq]
    refine ⟨⟨⟨n2, n3⟩, Nat.le_refl _⟩, ⟨⟨d2, d3⟩, Nat.le_refl _⟩, ⟨⟨s2, s3⟩, Nat.le_refl _⟩, ⟨⟨q2, q3⟩, Nat.le_refl _⟩, fun k hk => ?_, fun k hk => ?_, fun k hk => ?_, fun k hk => ?_⟩
    · change k < yN (hI h) at hk
      rw [g76 k (by omega), g76 (5 + k) (by omega)]
      exact ⟨(I.1.2.2.2.2 k hk).2.1, (I.1.2.2.2.2 k hk).2.2⟩
    · change k < yD (hI h) at hk
      rw [g77 k (by omega)]
      exact (I.2.1.2 k hk).2
    · change k < yS (hI h) at hk
      obtain ⟨z1, z2, z3⟩ := g78 k (by omega)
      rw [z1, z2, z3]
      exact I.2.2.1.2 k hk
    · change k < yC (hI h) at hk
      rw [g81 k (by omega)]
      exact w72 k (by omega)
  · simp (decide := true) (disch := (first | assumption | (simp only [Sh_setI, Sm_setI, Sh_setL, Sm_setL]; assumption) | omega)) only [CrI, c35', c35, i56, bI_True, bI_False, p_max, p_min, p_abs, Option.bind_some, Option.bind_none, Option.toList_some, Option.toList_none, List.cons_append, List.nil_append, bI_eq0, bI_ne0, bI_ne1, bI_eq1, bI_01, eq_self, true_or, or_true, and_true, true_and, false_and, and_false, false_or, or_false, ite_true, ite_false, if_true, if_false, not_true, not_false_iff, Classical.not_not, nem, ite_not, ne_eq]
    intro _
    refine ⟨fun k hk => ?_, fun k hk => ?_, fun k hk => ?_, fun k hk => ?_⟩
    · change k < yN (hI h) at hk
      rw [g76 k (by omega), g76 (5 + k) (by omega), F5.2.2.2.2.2 37 (by omega), F5.2.2.2.2.2 38 (by omega), k37 k hk, k38 k hk]
      exact (b0 k (by omega)).2
    · change k < yD (hI h) at hk
      rw [g77 k (by omega), F5.2.2.2.2.2 39 (by omega), k39 k hk]
    · change k < yS (hI h) at hk
      obtain ⟨z1, z2, z3⟩ := g78 k (by omega)
      obtain ⟨y1, y2, y3⟩ := k40 k hk
      rw [z1, z2, z3, F5.2.2.2.2.2 40 (by omega), F5.2.2.2.2.2 41 (by omega), F5.2.2.2.2.2 42 (by omega)]
      exact ⟨y1, y2, y3⟩
    · change k < yC (hI h) at hk
      rw [g81 k (by omega), F5.2.2.2.2.2 43 (by omega), k43 k hk]
end IMAGE2
