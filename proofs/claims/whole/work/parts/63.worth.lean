/-! what the rule says: the model; law -/
section WORTH
variable {d : Nat} {h : am_H}
theorem lateF_cg {m m' : am_M} (e : ∀ n, 57 ≤ n → n ≤ 84 → m' n = m n) (e2 : m' 56 1 = m 56 1) {c k : Nat} {v : Int32} : dueC m' c k = dueC m c k ∧ timeF m' c v = timeF m c v ∧ lateF m' c k v = lateF m c k v := by
  have d1 : dueC m' c k = dueC m c k := by simp (disch := omega) only [dueC, farN, yDr, ySh, yN, e, e2]
  have d2 : timeF m' c v = timeF m c v := by unfold timeF; rw [e 71 (by omega) (by omega), e 70 (by omega) (by omega), e 68 (by omega) (by omega)]
  refine ⟨d1, d2, ?_⟩
  unfold lateF yDr ySh
  rw [d1, d2, e 60 (by omega) (by omega), e 64 (by omega) (by omega), e 66 (by omega) (by omega), e 67 (by omega) (by omega)]
theorem factF_cg {m m' : am_M} (e : ∀ n, 57 ≤ n → n ≤ 84 → m' n = m n) (e2 : m' 56 1 = m 56 1) {c k : Nat} {v : Int32} : factF m' c (lateF m' c k v) = factF m c (lateF m c k v) := by
  funext x
  match x with
  | 0 => exact congrArg (fun q => szF q 9999) (lateF_cg e e2).2.2
  | 1 => simp (disch := omega) only [factF, farN, yDr, ySh, e]
  | 2 => simp (disch := omega) only [factF, e]
  | 3 => simp (disch := omega) only [factF, yDr, e]
  | 4 => simp (disch := omega) only [factF, yDr, e]
  | x + 5 => simp (disch := omega) only [factF, ySh, e]
theorem m_szF {v most : Int32} : Cl (d + 4) 190 [vi v, vi most] h = some (some (vi (szF v most)), h) := by
  unfold szF
  by_cases a : 0 ≤ v
  · simp (decide := true) (disch := (first | assumption | (simp only [Sh_setI, Sm_setI, Sh_setL, Sm_setL]; assumption) | omega)) only [E_190, B_190_0, B_190_4, B_190_9, B_190_10, B_190_16, B_190_20, B_190_21, a, mg_i, bI_True, bI_False, p_max, p_min, p_abs, Option.bind_some, Option.bind_none, Option.toList_some, Option.toList_none, List.cons_append, List.nil_append, bI_eq0, bI_ne0, bI_ne1, bI_eq1, bI_01, eq_self, true_or, or_true, and_true, true_and, false_and, and_false, false_or, or_false, ite_true, ite_false, if_true, if_false, not_true, not_false_iff, Classical.not_not, nem, ite_not, ne_eq]
  · simp (decide := true) (disch := (first | assumption | (simp only [Sh_setI, Sm_setI, Sh_setL, Sm_setL]; assumption) | omega)) only [E_190, B_190_0, B_190_4, B_190_9, B_190_10, B_190_16, B_190_20, B_190_21, a, mg_i, Int32.zero_sub, bI_True, bI_False, p_max, p_min, p_abs, Option.bind_some, Option.bind_none, Option.toList_some, Option.toList_none, List.cons_append, List.nil_append, bI_eq0, bI_ne0, bI_ne1, bI_eq1, bI_01, eq_self, true_or, or_true, and_true, true_and, false_and, and_false, false_or, or_false, ite_true, ite_false, if_true, if_false, not_true, not_false_iff, Classical.not_not, nem, ite_not, ne_eq]
theorem m_two (b : Nat) (hb : b < 7) {x y : Int32} : Cl (d + 4) 191 [vi (encM (.inr (.inr (.inr b)))), vi x, vi y] h = some (some (vi (joinF b x y)), h) := by
  match b, hb with
  | 0, _ =>
    by_cases a : x = 0
    · by_cases c : y = 0
      · simp (decide := true) (disch := (first | assumption | (simp only [Sh_setI, Sm_setI, Sh_setL, Sm_setL]; assumption) | omega)) only [encM, joinF, E_191, B_191_0, B_191_44, B_191_48, B_191_52, B_191_56, B_191_57, B_191_58, B_191_62, B_191_66, B_191_70, B_191_71, B_191_72, B_191_77, B_191_81, B_191_82, B_191_83, B_191_88, B_191_92, B_191_93, B_191_94, B_191_98, B_191_102, am_swE, a, c, bI_True, bI_False, p_max, p_min, p_abs, Option.bind_some, Option.bind_none, Option.toList_some, Option.toList_none, List.cons_append, List.nil_append, bI_eq0, bI_ne0, bI_ne1, bI_eq1, bI_01, eq_self, true_or, or_true, and_true, true_and, false_and, and_false, false_or, or_false, ite_true, ite_false, if_true, if_false, not_true, not_false_iff, Classical.not_not, nem, ite_not, ne_eq]
      · simp (decide := true) (disch := (first | assumption | (simp only [Sh_setI, Sm_setI, Sh_setL, Sm_setL]; assumption) | omega)) only [encM, joinF, E_191, B_191_0, B_191_44, B_191_48, B_191_52, B_191_56, B_191_57, B_191_58, B_191_62, B_191_66, B_191_70, B_191_71, B_191_72, B_191_77, B_191_81, B_191_82, B_191_83, B_191_88, B_191_92, B_191_93, B_191_94, B_191_98, B_191_102, am_swE, a, c, bI_True, bI_False, p_max, p_min, p_abs, Option.bind_some, Option.bind_none, Option.toList_some, Option.toList_none, List.cons_append, List.nil_append, bI_eq0, bI_ne0, bI_ne1, bI_eq1, bI_01, eq_self, true_or, or_true, and_true, true_and, false_and, and_false, false_or, or_false, ite_true, ite_false, if_true, if_false, not_true, not_false_iff, Classical.not_not, nem, ite_not, ne_eq]
    · simp (decide := true) (disch := (first | assumption | (simp only [Sh_setI, Sm_setI, Sh_setL, Sm_setL]; assumption) | omega)) only [encM, joinF, E_191, B_191_0, B_191_44, B_191_48, B_191_52, B_191_56, B_191_57, B_191_58, B_191_62, B_191_66, B_191_70, B_191_71, B_191_72, B_191_77, B_191_81, B_191_82, B_191_83, B_191_88, B_191_92, B_191_93, B_191_94, B_191_98, B_191_102, am_swE, a, bI_True, bI_False, p_max, p_min, p_abs, Option.bind_some, Option.bind_none, Option.toList_some, Option.toList_none, List.cons_append, List.nil_append, bI_eq0, bI_ne0, bI_ne1, bI_eq1, bI_01, eq_self, true_or, or_true, and_true, true_and, false_and, and_false, false_or, or_false, ite_true, ite_false, if_true, if_false, not_true, not_false_iff, Classical.not_not, nem, ite_not, ne_eq]
  | 1, _ =>
    by_cases a : x = 0
    · simp (decide := true) (disch := (first | assumption | (simp only [Sh_setI, Sm_setI, Sh_setL, Sm_setL]; assumption) | omega)) only [encM, joinF, E_191, B_191_0, B_191_44, B_191_48, B_191_52, B_191_56, B_191_57, B_191_58, B_191_62, B_191_66, B_191_70, B_191_71, B_191_72, B_191_77, B_191_81, B_191_82, B_191_83, B_191_88, B_191_92, B_191_93, B_191_94, B_191_98, B_191_102, am_swE, a, bI_True, bI_False, p_max, p_min, p_abs, Option.bind_some, Option.bind_none, Option.toList_some, Option.toList_none, List.cons_append, List.nil_append, bI_eq0, bI_ne0, bI_ne1, bI_eq1, bI_01, eq_self, true_or, or_true, and_true, true_and, false_and, and_false, false_or, or_false, ite_true, ite_false, if_true, if_false, not_true, not_false_iff, Classical.not_not, nem, ite_not, ne_eq]
    · by_cases c : y = 0
      · simp (decide := true) (disch := (first | assumption | (simp only [Sh_setI, Sm_setI, Sh_setL, Sm_setL]; assumption) | omega)) only [encM, joinF, E_191, B_191_0, B_191_44, B_191_48, B_191_52, B_191_56, B_191_57, B_191_58, B_191_62, B_191_66, B_191_70, B_191_71, B_191_72, B_191_77, B_191_81, B_191_82, B_191_83, B_191_88, B_191_92, B_191_93, B_191_94, B_191_98, B_191_102, am_swE, a, c, bI_True, bI_False, p_max, p_min, p_abs, Option.bind_some, Option.bind_none, Option.toList_some, Option.toList_none, List.cons_append, List.nil_append, bI_eq0, bI_ne0, bI_ne1, bI_eq1, bI_01, eq_self, true_or, or_true, and_true, true_and, false_and, and_false, false_or, or_false, ite_true, ite_false, if_true, if_false, not_true, not_false_iff, Classical.not_not, nem, ite_not, ne_eq]
      · simp (decide := true) (disch := (first | assumption | (simp only [Sh_setI, Sm_setI, Sh_setL, Sm_setL]; assumption) | omega)) only [encM, joinF, E_191, B_191_0, B_191_44, B_191_48, B_191_52, B_191_56, B_191_57, B_191_58, B_191_62, B_191_66, B_191_70, B_191_71, B_191_72, B_191_77, B_191_81, B_191_82, B_191_83, B_191_88, B_191_92, B_191_93, B_191_94, B_191_98, B_191_102, am_swE, a, c, bI_True, bI_False, p_max, p_min, p_abs, Option.bind_some, Option.bind_none, Option.toList_some, Option.toList_none, List.cons_append, List.nil_append, bI_eq0, bI_ne0, bI_ne1, bI_eq1, bI_01, eq_self, true_or, or_true, and_true, true_and, false_and, and_false, false_or, or_false, ite_true, ite_false, if_true, if_false, not_true, not_false_iff, Classical.not_not, nem, ite_not, ne_eq]
  | 2, _ =>
    by_cases a : y ≤ x
    · have a' : ¬ x < y := by rw [nt_le]; exact a
      simp (decide := true) (disch := (first | assumption | (simp only [Sh_setI, Sm_setI, Sh_setL, Sm_setL]; assumption) | omega)) only [encM, joinF, E_191, B_191_0, B_191_44, B_191_48, B_191_52, B_191_56, B_191_57, B_191_58, B_191_62, B_191_66, B_191_70, B_191_71, B_191_72, B_191_77, B_191_81, B_191_82, B_191_83, B_191_88, B_191_92, B_191_93, B_191_94, B_191_98, B_191_102, am_swE, a, a', bI_True, bI_False, p_max, p_min, p_abs, Option.bind_some, Option.bind_none, Option.toList_some, Option.toList_none, List.cons_append, List.nil_append, bI_eq0, bI_ne0, bI_ne1, bI_eq1, bI_01, eq_self, true_or, or_true, and_true, true_and, false_and, and_false, false_or, or_false, ite_true, ite_false, if_true, if_false, not_true, not_false_iff, Classical.not_not, nem, ite_not, ne_eq]
    · have a' : x < y := by rw [← nt_lt]; exact a
      simp (decide := true) (disch := (first | assumption | (simp only [Sh_setI, Sm_setI, Sh_setL, Sm_setL]; assumption) | omega)) only [encM, joinF, E_191, B_191_0, B_191_44, B_191_48, B_191_52, B_191_56, B_191_57, B_191_58, B_191_62, B_191_66, B_191_70, B_191_71, B_191_72, B_191_77, B_191_81, B_191_82, B_191_83, B_191_88, B_191_92, B_191_93, B_191_94, B_191_98, B_191_102, am_swE, a, a', bI_True, bI_False, p_max, p_min, p_abs, Option.bind_some, Option.bind_none, Option.toList_some, Option.toList_none, List.cons_append, List.nil_append, bI_eq0, bI_ne0, bI_ne1, bI_eq1, bI_01, eq_self, true_or, or_true, and_true, true_and, false_and, and_false, false_or, or_false, ite_true, ite_false, if_true, if_false, not_true, not_false_iff, Classical.not_not, nem, ite_not, ne_eq]
  | 3, _ =>
    by_cases a : x = y
    · simp (decide := true) (disch := (first | assumption | (simp only [Sh_setI, Sm_setI, Sh_setL, Sm_setL]; assumption) | omega)) only [encM, joinF, E_191, B_191_0, B_191_44, B_191_48, B_191_52, B_191_56, B_191_57, B_191_58, B_191_62, B_191_66, B_191_70, B_191_71, B_191_72, B_191_77, B_191_81, B_191_82, B_191_83, B_191_88, B_191_92, B_191_93, B_191_94, B_191_98, B_191_102, am_swE, a, bI_True, bI_False, p_max, p_min, p_abs, Option.bind_some, Option.bind_none, Option.toList_some, Option.toList_none, List.cons_append, List.nil_append, bI_eq0, bI_ne0, bI_ne1, bI_eq1, bI_01, eq_self, true_or, or_true, and_true, true_and, false_and, and_false, false_or, or_false, ite_true, ite_false, if_true, if_false, not_true, not_false_iff, Classical.not_not, nem, ite_not, ne_eq]
    · simp (decide := true) (disch := (first | assumption | (simp only [Sh_setI, Sm_setI, Sh_setL, Sm_setL]; assumption) | omega)) only [encM, joinF, E_191, B_191_0, B_191_44, B_191_48, B_191_52, B_191_56, B_191_57, B_191_58, B_191_62, B_191_66, B_191_70, B_191_71, B_191_72, B_191_77, B_191_81, B_191_82, B_191_83, B_191_88, B_191_92, B_191_93, B_191_94, B_191_98, B_191_102, am_swE, a, bI_True, bI_False, p_max, p_min, p_abs, Option.bind_some, Option.bind_none, Option.toList_some, Option.toList_none, List.cons_append, List.nil_append, bI_eq0, bI_ne0, bI_ne1, bI_eq1, bI_01, eq_self, true_or, or_true, and_true, true_and, false_and, and_false, false_or, or_false, ite_true, ite_false, if_true, if_false, not_true, not_false_iff, Classical.not_not, nem, ite_not, ne_eq]
  | 4, _ => simp (decide := true) (disch := (first | assumption | (simp only [Sh_setI, Sm_setI, Sh_setL, Sm_setL]; assumption) | omega)) only [encM, joinF, E_191, B_191_0, B_191_44, B_191_48, B_191_52, B_191_56, B_191_57, B_191_58, B_191_62, B_191_66, B_191_70, B_191_71, B_191_72, B_191_77, B_191_81, B_191_82, B_191_83, B_191_88, B_191_92, B_191_93, B_191_94, B_191_98, B_191_102, am_swE, bI_True, bI_False, p_max, p_min, p_abs, Option.bind_some, Option.bind_none, Option.toList_some, Option.toList_none, List.cons_append, List.nil_append, bI_eq0, bI_ne0, bI_ne1, bI_eq1, bI_01, eq_self, true_or, or_true, and_true, true_and, false_and, and_false, false_or, or_false, ite_true, ite_false, if_true, if_false, not_true, not_false_iff, Classical.not_not, nem, ite_not, ne_eq]
  | 5, _ => simp (decide := true) (disch := (first | assumption | (simp only [Sh_setI, Sm_setI, Sh_setL, Sm_setL]; assumption) | omega)) only [encM, joinF, E_191, B_191_0, B_191_44, B_191_48, B_191_52, B_191_56, B_191_57, B_191_58, B_191_62, B_191_66, B_191_70, B_191_71, B_191_72, B_191_77, B_191_81, B_191_82, B_191_83, B_191_88, B_191_92, B_191_93, B_191_94, B_191_98, B_191_102, am_swE, bI_True, bI_False, p_max, p_min, p_abs, Option.bind_some, Option.bind_none, Option.toList_some, Option.toList_none, List.cons_append, List.nil_append, bI_eq0, bI_ne0, bI_ne1, bI_eq1, bI_01, eq_self, true_or, or_true, and_true, true_and, false_and, and_false, false_or, or_false, ite_true, ite_false, if_true, if_false, not_true, not_false_iff, Classical.not_not, nem, ite_not, ne_eq]
  | 6, _ => simp (decide := true) (disch := (first | assumption | (simp only [Sh_setI, Sm_setI, Sh_setL, Sm_setL]; assumption) | omega)) only [encM, joinF, E_191, B_191_0, B_191_44, B_191_48, B_191_52, B_191_56, B_191_57, B_191_58, B_191_62, B_191_66, B_191_70, B_191_71, B_191_72, B_191_77, B_191_81, B_191_82, B_191_83, B_191_88, B_191_92, B_191_93, B_191_94, B_191_98, B_191_102, am_swE, bI_True, bI_False, p_max, p_min, p_abs, Option.bind_some, Option.bind_none, Option.toList_some, Option.toList_none, List.cons_append, List.nil_append, bI_eq0, bI_ne0, bI_ne1, bI_eq1, bI_01, eq_self, true_or, or_true, and_true, true_and, false_and, and_false, false_or, or_false, ite_true, ite_false, if_true, if_false, not_true, not_false_iff, Classical.not_not, nem, ite_not, ne_eq]
theorem m_named (T : Sm h) (I : Inv (hI h)) {c : Nat} (hc : c < 40) (J : Ci (hI h) c) {v : Int32} : ∀ x, x < 6 → Cl (d + 13) 189 [vr (some 56), vi (nI x), vi (nI c), vi v] h = some (some (vi (factF (hI h) c (lateF (hI h) c (cl (hI h 65 c)) v) x)), h) := by
  have el := fun d => m_lateOf (d := d) T I hc J (v := v)
  have ef := fun d => m_farOf (d := d) T hc J
  obtain ⟨-, ⟨d1, d2, d3⟩, ⟨s1, s2, s3⟩, -⟩ := J
  intro x hx
  match x, hx with
  | 0, _ => simp (decide := true) (disch := (first | assumption | (simp only [Sh_setI, Sm_setI, Sh_setL, Sm_setL]; assumption) | omega)) only [E_189, B_189_0, B_189_6, B_189_44, B_189_52, el, n_eqO, am_swE, m_szF, factF, bI_True, bI_False, p_max, p_min, p_abs, Option.bind_some, Option.bind_none, Option.toList_some, Option.toList_none, List.cons_append, List.nil_append, bI_eq0, bI_ne0, bI_ne1, bI_eq1, bI_01, eq_self, true_or, or_true, and_true, true_and, false_and, and_false, false_or, or_false, ite_true, ite_false, if_true, if_false, not_true, not_false_iff, Classical.not_not, nem, ite_not, ne_eq]
  | 1, _ => simp (decide := true) (disch := (first | assumption | (simp only [Sh_setI, Sm_setI, Sh_setL, Sm_setL]; assumption) | omega)) only [E_189, B_189_0, B_189_6, B_189_53, B_189_58, el, n_eqO, am_swE, ef, factF, bI_True, bI_False, p_max, p_min, p_abs, Option.bind_some, Option.bind_none, Option.toList_some, Option.toList_none, List.cons_append, List.nil_append, bI_eq0, bI_ne0, bI_ne1, bI_eq1, bI_01, eq_self, true_or, or_true, and_true, true_and, false_and, and_false, false_or, or_false, ite_true, ite_false, if_true, if_false, not_true, not_false_iff, Classical.not_not, nem, ite_not, ne_eq]
  | 2, _ => simp (decide := true) (disch := (first | assumption | (simp only [Sh_setI, Sm_setI, Sh_setL, Sm_setL]; assumption) | omega)) only [E_189, B_189_0, B_189_6, B_189_59, el, n_eqO, am_swE, n_ix, n_cl, factF, bI_True, bI_False, p_max, p_min, p_abs, Option.bind_some, Option.bind_none, Option.toList_some, Option.toList_none, List.cons_append, List.nil_append, bI_eq0, bI_ne0, bI_ne1, bI_eq1, bI_01, eq_self, true_or, or_true, and_true, true_and, false_and, and_false, false_or, or_false, ite_true, ite_false, if_true, if_false, not_true, not_false_iff, Classical.not_not, nem, ite_not, ne_eq]
  | 3, _ => simp (decide := true) (disch := (first | assumption | (simp only [Sh_setI, Sm_setI, Sh_setL, Sm_setL]; assumption) | omega)) only [E_189, B_189_0, B_189_6, B_189_66, el, n_eqO, am_swE, n_ix, n_cl, d1, factF, bI_True, bI_False, p_max, p_min, p_abs, Option.bind_some, Option.bind_none, Option.toList_some, Option.toList_none, List.cons_append, List.nil_append, bI_eq0, bI_ne0, bI_ne1, bI_eq1, bI_01, eq_self, true_or, or_true, and_true, true_and, false_and, and_false, false_or, or_false, ite_true, ite_false, if_true, if_false, not_true, not_false_iff, Classical.not_not, nem, ite_not, ne_eq]
  | 4, _ => simp (decide := true) (disch := (first | assumption | (simp only [Sh_setI, Sm_setI, Sh_setL, Sm_setL]; assumption) | omega)) only [E_189, B_189_0, B_189_6, B_189_78, el, n_eqO, am_swE, n_ix, n_cl, d1, factF, bI_True, bI_False, p_max, p_min, p_abs, Option.bind_some, Option.bind_none, Option.toList_some, Option.toList_none, List.cons_append, List.nil_append, bI_eq0, bI_ne0, bI_ne1, bI_eq1, bI_01, eq_self, true_or, or_true, and_true, true_and, false_and, and_false, false_or, or_false, ite_true, ite_false, if_true, if_false, not_true, not_false_iff, Classical.not_not, nem, ite_not, ne_eq]
  | 5, _ => simp (decide := true) (disch := (first | assumption | (simp only [Sh_setI, Sm_setI, Sh_setL, Sm_setL]; assumption) | omega)) only [E_189, B_189_0, B_189_6, B_189_90, el, n_eqO, am_swE, n_ix, n_cl, s1, factF, bI_True, bI_False, p_max, p_min, p_abs, Option.bind_some, Option.bind_none, Option.toList_some, Option.toList_none, List.cons_append, List.nil_append, bI_eq0, bI_ne0, bI_ne1, bI_eq1, bI_01, eq_self, true_or, or_true, and_true, true_and, false_and, and_false, false_or, or_false, ite_true, ite_false, if_true, if_false, not_true, not_false_iff, Classical.not_not, nem, ite_not, ne_eq]
theorem n_pm1 {n : Nat} (q : 1 ≤ n) : nI n + (-1) = nI (n - 1) := by
  rw [← n_sub q]
  show nI n + (-1) = nI n - 1
  rw [Int32.sub_eq_add_neg]
theorem m_vloop {rl part c to : Nat} {v : Int32} {F : am_F} (T : Sm h) (hr : hI h 56 26 = nI rl) (hrl : rl < 6) (hp : part < 2) (qto : hI h 75 (4 * rl + part + 1) = nI to) (hto : to ≤ 160) (hF : ∀ h', Fi (fun a => a = 87) h h' → ∀ x, x < 6 → Cl (d + 16) 189 [vr (some 56), vi (nI x), vi (nI c), vi v] h' = some (some (vi (F x)), h')) : ∀ (os : List tOp) (i n n' : Nat) (h' : am_H) (a6 : am_V), Fi (fun a => a = 87) h h' → (∀ k o, os[k]? = some o → hI h 74 (200 * rl + (i + k)) = encM o ∧ okOp o) → i + os.length = to → n ≤ i → depL os n = some n' → ∃ h1 a6', Ev (d + 17) 188 18 [vr (some 56), vi (nI part), vi (nI c), vi v, vi (nI n), vi (nI i), a6] [] h' = Ev (d + 17) 188 212 [vr (some 56), vi (nI part), vi (nI c), vi v, vi (nI n'), vi (nI to), a6'] [] h1 ∧ Fi (fun a => a = 87) h h1 ∧ hI h1 87 = evL F os n (hI h' 87) := by
  intro os
  induction os with
  | nil =>
    intro i n n' h' a6 W q e hn dp
    cases dp
    have : i = to := by simpa using e
    subst this
    have T' := W.sm T
    refine ⟨h', a6, ?_, W, rfl⟩
    rw [B_188_18 T', W.2.2.2.2.2 56 (by omega), W.2.2.2.2.2 75 (by omega), hr]
    simp (decide := true) (disch := (first | assumption | (simp only [Sh_setI, Sm_setI, Sh_setL, Sm_setL]; assumption) | omega)) only [n_Omul, n_add, n_addO, n_ix, n_cl, qto, n_le, Nat.le_refl, bI_True, bI_False, p_max, p_min, p_abs, Option.bind_some, Option.bind_none, Option.toList_some, Option.toList_none, List.cons_append, List.nil_append, bI_eq0, bI_ne0, bI_ne1, bI_eq1, bI_01, eq_self, true_or, or_true, and_true, true_and, false_and, and_false, false_or, or_false, ite_true, ite_false, if_true, if_false, not_true, not_false_iff, Classical.not_not, nem, ite_not, ne_eq]
  | cons o os ih =>
    intro i n n' h' a6 W q e hn dp
    obtain ⟨p, dp1, dp2⟩ := depL_cons dp
    have el : i + (os.length + 1) = to := e
    obtain ⟨qo, ok⟩ := q 0 o rfl
    have qo' : hI h 74 (200 * rl + i) = encM o := qo
    have T' := W.sm T
    have w56 := W.2.2.2.2.2 56 (by omega)
    have w75 := W.2.2.2.2.2 75 (by omega)
    have w74 := W.2.2.2.2.2 74 (by omega)
    have k87 : hkd h' 87 = 100 := T'.kd (n := 87) (k := 100) rfl rfl
    have l87 : hln h' 87 = 200 := T'.ln (n := 87) (k := 200) rfl rfl
    have pl := depO_le dp1
    have head : Ev (d + 17) 188 18 [vr (some 56), vi (nI part), vi (nI c), vi v, vi (nI n), vi (nI i), a6] [] h' = if 100000 ≤ encM o then Ev (d + 17) 188 71 [vr (some 56), vi (nI part), vi (nI c), vi v, vi (nI n), vi (nI i), vi (encM o)] [] h' else Ev (d + 17) 188 64 [vr (some 56), vi (nI part), vi (nI c), vi v, vi (nI n), vi (nI i), vi (encM o)] [] h' := by
      rw [B_188_18 T', w56, w75, hr]
      simp (decide := true) (disch := (first | assumption | (simp only [Sh_setI, Sm_setI, Sh_setL, Sm_setL]; assumption) | omega)) only [n_Omul, n_add, n_addO, n_ix, n_cl, qto, n_le, show ¬ to ≤ i by omega, B_188_38 T', w56, w74, hr, qo', bI_True, bI_False, p_max, p_min, p_abs, Option.bind_some, Option.bind_none, Option.toList_some, Option.toList_none, List.cons_append, List.nil_append, bI_eq0, bI_ne0, bI_ne1, bI_eq1, bI_01, eq_self, true_or, or_true, and_true, true_and, false_and, and_false, false_or, or_false, ite_true, ite_false, if_true, if_false, not_true, not_false_iff, Classical.not_not, nem, ite_not, ne_eq]
    have nx : ∀ (h2 : am_H) (b6 : am_V), Fi (fun a => a = 87) h h2 → hI h2 87 = evO F o n (hI h' 87) → ∃ h1 a6', Ev (d + 17) 188 18 [vr (some 56), vi (nI part), vi (nI c), vi v, vi (nI p), vi (nI (i + 1)), b6] [] h2 = Ev (d + 17) 188 212 [vr (some 56), vi (nI part), vi (nI c), vi v, vi (nI n'), vi (nI to), a6'] [] h1 ∧ Fi (fun a => a = 87) h h1 ∧ hI h1 87 = evL F (o :: os) n (hI h' 87) := by
      intro h2 b6 W2 e2
      obtain ⟨h1, a6', e3, W3, e4⟩ := ih (i + 1) p n' h2 b6 W2 (fun k o' w => by
        rw [show i + 1 + k = i + (k + 1) by omega]
        exact q (k + 1) o' w) (by omega) (by omega) dp2
      refine ⟨h1, a6', e3, W3, ?_⟩
      rw [e4, e2]
      simp only [evL]
      rw [dp1]
      rfl
    rw [head]
    match o, ok, dp1 with
    | .inl u, ok, dp1 =>
      cases dp1
      have hu : u ≤ 9999 := ok
      obtain ⟨h1, a6', e3, W3, e4⟩ := nx (setI h' 87 n (nI u)) (vi (encM (.inl u))) (W.si rfl) (by rw [ups_h]; rfl)
      refine ⟨h1, a6', Eq.trans ?_ e3, W3, e4⟩
      simp (decide := true) (disch := (first | assumption | (simp only [Sh_setI, Sm_setI, Sh_setL, Sm_setL]; assumption) | omega)) only [encM, n_Ole, Nat.le_add_right, B_188_71 T', show 11 ≤ 100000 + u by omega, B_188_95, n_subO, Nat.add_sub_cancel_left, B_188_101, k87, l87, n_ix, n_cl, B_188_206, n_addO, bI_True, bI_False, p_max, p_min, p_abs, Option.bind_some, Option.bind_none, Option.toList_some, Option.toList_none, List.cons_append, List.nil_append, bI_eq0, bI_ne0, bI_ne1, bI_eq1, bI_01, eq_self, true_or, or_true, and_true, true_and, false_and, and_false, false_or, or_false, ite_true, ite_false, if_true, if_false, not_true, not_false_iff, Classical.not_not, nem, ite_not, ne_eq]
    | .inr (.inl x), ok, dp1 =>
      cases dp1
      have hx : x < 6 := ok
      obtain ⟨h1, a6', e3, W3, e4⟩ := nx (setI h' 87 n (F x)) (vi (encM (.inr (.inl x)))) (W.si rfl) (by rw [ups_h]; rfl)
      refine ⟨h1, a6', Eq.trans ?_ e3, W3, e4⟩
      simp (decide := true) (disch := (first | assumption | (simp only [Sh_setI, Sm_setI, Sh_setL, Sm_setL]; assumption) | omega)) only [encM, n_Ole, show ¬ 100000 ≤ x by omega, show ¬ 11 ≤ x by omega, B_188_64, B_188_71 T', B_188_84 T', hF h' W x hx, B_188_92, B_188_101, k87, l87, n_ix, n_cl, B_188_206, n_addO, bI_True, bI_False, p_max, p_min, p_abs, Option.bind_some, Option.bind_none, Option.toList_some, Option.toList_none, List.cons_append, List.nil_append, bI_eq0, bI_ne0, bI_ne1, bI_eq1, bI_01, eq_self, true_or, or_true, and_true, true_and, false_and, and_false, false_or, or_false, ite_true, ite_false, if_true, if_false, not_true, not_false_iff, Classical.not_not, nem, ite_not, ne_eq]
    | .inr (.inr (.inl true)), ok, dp1 =>
      simp only [depO] at dp1
      split at dp1
      · rename_i hn1
        cases dp1
        obtain ⟨h1, a6', e3, W3, e4⟩ := nx (setI h' 87 (n - 1) (bI (hI h' 87 (n - 1) = 0))) (vi 13) (W.si rfl) (by rw [ups_h]; rfl)
        refine ⟨h1, a6', Eq.trans ?_ e3, W3, e4⟩
        simp (decide := true) (disch := (first | assumption | (simp only [Sh_setI, Sm_setI, Sh_setL, Sm_setL]; assumption) | omega)) only [encM, B_188_64, B_188_108, B_188_115 T', n_subO, n_ix, n_cl, bI_True, bI_False, p_max, p_min, p_abs, Option.bind_some, Option.bind_none, Option.toList_some, Option.toList_none, List.cons_append, List.nil_append, bI_eq0, bI_ne0, bI_ne1, bI_eq1, bI_01, eq_self, true_or, or_true, and_true, true_and, false_and, and_false, false_or, or_false, ite_true, ite_false, if_true, if_false, not_true, not_false_iff, Classical.not_not, nem, ite_not, ne_eq]
        by_cases c0 : hI h' 87 (n - 1) = 0
        · simp (decide := true) (disch := (first | assumption | (simp only [Sh_setI, Sm_setI, Sh_setL, Sm_setL]; assumption) | omega)) only [c0, B_188_135, B_188_140, k87, l87, n_ix, n_cl, B_188_206, n_addO, bI_True, bI_False, p_max, p_min, p_abs, Option.bind_some, Option.bind_none, Option.toList_some, Option.toList_none, List.cons_append, List.nil_append, bI_eq0, bI_ne0, bI_ne1, bI_eq1, bI_01, eq_self, true_or, or_true, and_true, true_and, false_and, and_false, false_or, or_false, ite_true, ite_false, if_true, if_false, not_true, not_false_iff, Classical.not_not, nem, ite_not, ne_eq]
        · simp (decide := true) (disch := (first | assumption | (simp only [Sh_setI, Sm_setI, Sh_setL, Sm_setL]; assumption) | omega)) only [c0, B_188_139, B_188_140, k87, l87, n_ix, n_cl, B_188_206, n_addO, bI_True, bI_False, p_max, p_min, p_abs, Option.bind_some, Option.bind_none, Option.toList_some, Option.toList_none, List.cons_append, List.nil_append, bI_eq0, bI_ne0, bI_ne1, bI_eq1, bI_01, eq_self, true_or, or_true, and_true, true_and, false_and, and_false, false_or, or_false, ite_true, ite_false, if_true, if_false, not_true, not_false_iff, Classical.not_not, nem, ite_not, ne_eq]
      · exact absurd dp1 (by simp)
    | .inr (.inr (.inl false)), ok, dp1 =>
      simp only [depO] at dp1
      split at dp1
      · rename_i hn1
        cases dp1
        obtain ⟨h1, a6', e3, W3, e4⟩ := nx (setI h' 87 (n - 1) (-hI h' 87 (n - 1))) (vi 19) (W.si rfl) (by rw [ups_h]; rfl)
        refine ⟨h1, a6', Eq.trans ?_ e3, W3, e4⟩
        simp (decide := true) (disch := (first | assumption | (simp only [Sh_setI, Sm_setI, Sh_setL, Sm_setL]; assumption) | omega)) only [encM, B_188_64, B_188_108, B_188_144, B_188_151 T', n_subO, n_ix, n_cl, B_188_206, n_addO, bI_True, bI_False, p_max, p_min, p_abs, Option.bind_some, Option.bind_none, Option.toList_some, Option.toList_none, List.cons_append, List.nil_append, bI_eq0, bI_ne0, bI_ne1, bI_eq1, bI_01, eq_self, true_or, or_true, and_true, true_and, false_and, and_false, false_or, or_false, ite_true, ite_false, if_true, if_false, not_true, not_false_iff, Classical.not_not, nem, ite_not, ne_eq]
      · exact absurd dp1 (by simp)
    | .inr (.inr (.inr b)), ok, dp1 =>
      have hb : b < 7 := ok
      simp only [depO] at dp1
      split at dp1
      · rename_i hn2
        cases dp1
        obtain ⟨h1, a6', e3, W3, e4⟩ := nx (setI h' 87 (n - 2) (joinF b (hI h' 87 (n - 2)) (hI h' 87 (n - 1)))) (vi (encM (.inr (.inr (.inr b))))) (W.si rfl) (by rw [ups_h]; rfl)
        refine ⟨h1, a6', Eq.trans ?_ e3, W3, e4⟩
        have e1 : ¬ 100000 ≤ encM (.inr (.inr (.inr b))) ∧ 11 ≤ encM (.inr (.inr (.inr b))) ∧ encM (.inr (.inr (.inr b))) ≠ 13 ∧ encM (.inr (.inr (.inr b))) ≠ 19 := by
          match b, hb with
          | 0, _ => decide
          | 1, _ => decide
          | 2, _ => decide
          | 3, _ => decide
          | 4, _ => decide
          | 5, _ => decide
          | 6, _ => decide
        have cj := fun d x y => m_two (d := d) (h := h') b hb (x := x) (y := y)
        generalize encM (.inr (.inr (.inr b))) = e at *
        obtain ⟨e1, e2, e3, e4⟩ := e1
        have n12 : n - 1 - 1 = n - 2 := by omega
        simp (decide := true) (disch := (first | assumption | (simp only [Sh_setI, Sm_setI, Sh_setL, Sm_setL]; assumption) | omega)) only [e1, e2, e3, e4, B_188_64, B_188_108, B_188_144, B_188_173 T', n_pm1, n_subO, n12, n_ix, n_cl, cj, B_188_205, k87, l87, B_188_206, n_addO, bI_True, bI_False, p_max, p_min, p_abs, Option.bind_some, Option.bind_none, Option.toList_some, Option.toList_none, List.cons_append, List.nil_append, bI_eq0, bI_ne0, bI_ne1, bI_eq1, bI_01, eq_self, true_or, or_true, and_true, true_and, false_and, and_false, false_or, or_false, ite_true, ite_false, if_true, if_false, not_true, not_false_iff, Classical.not_not, nem, ite_not, ne_eq]
      · exact absurd dp1 (by simp)
theorem m_worth (T : Sm h) (I : Inv (hI h)) {c : Nat} (hc : c < yC (hI h)) {hx : am_H} {n0 : Nat} {A B : List tOp} (X : textAt_ (hI h) hx (cl (hI h 56 26)) n0 A B) {part : Nat} (hp : part < 2) {v : Int32} : ∃ h1, Cl (d + 17) 188 [vr (some 56), vi (nI part), vi (nI c), vi v] h = some (some (vi (saysF (hI h) c (lateF (hI h) c (cl (hI h 65 c)) v) (if part = 0 then A else B))), h1) ∧ Fi (fun a => a = 87) h h1 := by
  obtain ⟨t1, t2⟩ := I.2.2.2.2.1.2
  have t3 : hI h 56 26 = nI (cl (hI h 56 26)) := t2.1
  have t4 : cl (hI h 56 26) < 6 := by have := t2.2; have := t1.1.2; unfold yT at *; omega
  have hc40 : c < 40 := by have := I.2.2.2.1.1.2; unfold yC at hc; omega
  generalize cl (hI h 56 26) = t at *
  obtain ⟨x1, x2, x3, x4, x5, x6, x7, x8, x9, x10, x11, x12, x13, x14, x15, x16, x17, x18, x19⟩ := X
  have hF : ∀ h', Fi (fun a => a = 87) h h' → ∀ x, x < 6 → Cl (d + 16) 189 [vr (some 56), vi (nI x), vi (nI c), vi v] h' = some (some (vi (factF (hI h) c (lateF (hI h) c (cl (hI h 65 c)) v) x)), h') := by
    intro h' W x hx
    have st := W.2.2.2.2.2
    have e1 : ∀ n, 57 ≤ n → n ≤ 84 → hI h' n = hI h n := fun n q1 q2 => st n (by omega)
    have I' : Inv (hI h') := Inv_cg e1 (fun f _ => by rw [st 56 (by omega)]) I
    have J' : Ci (hI h') c := card_int I' (by unfold yC; rw [st 56 (by omega)]; exact hc)
    have q := m_named (d := d + 3) (W.sm T) I' hc40 J' (v := v) x hx
    rw [st 65 (by omega), factF_cg e1 (by rw [st 56 (by omega)])] at q
    exact q
  match part, hp with
  | 0, _ =>
    obtain ⟨h1, a6', e1, W, v1⟩ := m_vloop (d := d) (c := c) (v := v) (part := 0) T t3 t4 (by omega) x14 (by rw [List.length_append] at x11; omega) hF A 0 0 1 h vu Fi.rf (fun k o w => by
      have w' : (A ++ B)[k]? = some o := by
        rw [List.getElem?_append_left (by exact (List.getElem?_eq_some_iff.mp w).1)]
        exact w
      rw [Nat.zero_add]
      exact ⟨(x17 _ o w').2, x16 o (List.mem_of_getElem? w')⟩) (by omega) (by omega) x18
    refine ⟨h1, ?_, W⟩
    rw [E_188, B_188_0 T, t3]
    simp (decide := true) (disch := (first | assumption | (simp only [Sh_setI, Sm_setI, Sh_setL, Sm_setL]; assumption) | omega)) only [n_Omul, n_add, Nat.add_zero, n_ix, n_cl, x13, bI_True, bI_False, p_max, p_min, p_abs, Option.bind_some, Option.bind_none, Option.toList_some, Option.toList_none, List.cons_append, List.nil_append, bI_eq0, bI_ne0, bI_ne1, bI_eq1, bI_01, eq_self, true_or, or_true, and_true, true_and, false_and, and_false, false_or, or_false, ite_true, ite_false, if_true, if_false, not_true, not_false_iff, Classical.not_not, nem, ite_not, ne_eq]
    refine e1.trans ?_
    simp (decide := true) (disch := (first | assumption | (simp only [Sh_setI, Sm_setI, Sh_setL, Sm_setL]; assumption) | omega)) only [B_188_212 (W.sm T), n_ixO, n_clO, v1, says_eq x18, bI_True, bI_False, p_max, p_min, p_abs, Option.bind_some, Option.bind_none, Option.toList_some, Option.toList_none, List.cons_append, List.nil_append, bI_eq0, bI_ne0, bI_ne1, bI_eq1, bI_01, eq_self, true_or, or_true, and_true, true_and, false_and, and_false, false_or, or_false, ite_true, ite_false, if_true, if_false, not_true, not_false_iff, Classical.not_not, nem, ite_not, ne_eq]
  | 1, _ =>
    rw [List.length_append] at x15
    obtain ⟨h1, a6', e1, W, v1⟩ := m_vloop (d := d) (c := c) (v := v) (part := 1) T t3 t4 (by omega) x15 (by rw [List.length_append] at x11; omega) hF B A.length 0 1 h vu Fi.rf (fun k o w => by
      have w' : (A ++ B)[A.length + k]? = some o := by
        rw [List.getElem?_append_right (by omega), Nat.add_sub_cancel_left]
        exact w
      exact ⟨(x17 _ o w').2, x16 o (List.mem_of_getElem? w')⟩) rfl (by omega) x19
    refine ⟨h1, ?_, W⟩
    rw [E_188, B_188_0 T, t3]
    simp (decide := true) (disch := (first | assumption | (simp only [Sh_setI, Sm_setI, Sh_setL, Sm_setL]; assumption) | omega)) only [n_Omul, n_add, n_ix, n_cl, x14, bI_True, bI_False, p_max, p_min, p_abs, Option.bind_some, Option.bind_none, Option.toList_some, Option.toList_none, List.cons_append, List.nil_append, bI_eq0, bI_ne0, bI_ne1, bI_eq1, bI_01, eq_self, true_or, or_true, and_true, true_and, false_and, and_false, false_or, or_false, ite_true, ite_false, if_true, if_false, not_true, not_false_iff, Classical.not_not, nem, ite_not, ne_eq]
    refine e1.trans ?_
    simp (decide := true) (disch := (first | assumption | (simp only [Sh_setI, Sm_setI, Sh_setL, Sm_setL]; assumption) | omega)) only [B_188_212 (W.sm T), n_ixO, n_clO, v1, says_eq x19, bI_True, bI_False, p_max, p_min, p_abs, Option.bind_some, Option.bind_none, Option.toList_some, Option.toList_none, List.cons_append, List.nil_append, bI_eq0, bI_ne0, bI_ne1, bI_eq1, bI_01, eq_self, true_or, or_true, and_true, true_and, false_and, and_false, false_or, or_false, ite_true, ite_false, if_true, if_false, not_true, not_false_iff, Classical.not_not, nem, ite_not, ne_eq]
end WORTH
