/-! start: the model's constructor ends -/
def ev_bX : List Ew := eR 56 55 88 :: ev_b41
section CTORG
variable {d : Nat} {h : am_H}
theorem x_mid : ev_bX.all midE = true := by decide +kernel
theorem x_hk (B : Sb h hB) : hk (ap ev_bX h) = 88 := by rw [bp_hk B x_mid]; decide +kernel
theorem x_hkB : hk (ap ev_bX hB) = 88 := by decide +kernel
theorem x_kd : ∀ n, n < 89 → km0 n ≠ 999 → 56 ≤ n ∧ hkd (ap ev_bX hB) n = km0 n ∧ hln (ap ev_bX hB) n = lm0 n := by decide +kernel
theorem x_rf : ∀ f, f < 56 → rg0 56 f ≠ 0 → hR (ap ev_bX hB) 56 f = some (rg0 56 f) := by decide +kernel
theorem Sm_x (B : Sb h hB) : Sm (ap ev_bX h) := by
  refine ⟨by rw [x_hk B]; omega, fun n q => ?_, fun n f q => ?_⟩
  · have w := km0_cl n q
    obtain ⟨z1, z2, z3⟩ := x_kd n (by omega) q
    obtain ⟨b1, b2, -⟩ := bp B x_mid (n := n) ⟨z1, by rw [x_hkB]; exact w⟩
    exact ⟨b1.trans z2, b2.trans z3⟩
  · have w := rg0_cl n f q
    subst w
    have f56 : f < 56 := Classical.byContradiction fun z => q (by
      unfold rg0
      rw [List.getD_eq_getElem?_getD, List.getElem?_eq_none (by show 56 ≤ f; omega)]
      rfl)
    obtain ⟨-, -, -, -, b5⟩ := bp B x_mid (n := 56) ⟨by omega, by rw [x_hkB]; omega⟩
    rw [b5]
    exact x_rf f f56 q
theorem m_146 (T : Sm h) {k : Nat} (hk : k + 2 < 1200) {x y z : Int32} : Cl (d + 4) 146 [vr (some 56), vi (nI k), vi x, vi y, vi z] h = some (none, setI (setI (setI h 74 k x) 74 (k + 1) y) 74 (k + 2) z) := by
  have T2 : Sm (setI (setI h 74 k x) 74 (k + 1) y) := T.si.si
  simp (decide := true) (disch := (first | assumption | (simp only [Sh_setI, Sm_setI, Sh_setL, Sm_setL]; assumption) | omega)) only [E_146, B_146_0 T, n_ix, n_cl, n_addO, B_146_16 T2, bI_True, bI_False, p_max, p_min, p_abs, Option.bind_some, Option.bind_none, Option.toList_some, Option.toList_none, List.cons_append, List.nil_append, bI_eq0, bI_ne0, bI_ne1, bI_eq1, bI_01, eq_self, true_or, or_true, and_true, true_and, false_and, and_false, false_or, or_false, ite_true, ite_false, if_true, if_false, not_true, not_false_iff, Classical.not_not, nem, ite_not, ne_eq]
theorem m_lp : ∀ (j i : Nat) (h : am_H), i + j = 40 → Sm h → ∃ h1, Ev (d + 4) 145 432 [vr (some 56), vi (nI i)] [] h = some (none, h1) ∧ Fi (fun a => a = 71) h h1 ∧ ∀ k, hI h1 71 k = if i ≤ k ∧ k < 40 then -1 else hI h 71 k := by
  intro j
  induction j with
  | zero =>
    intro i h e T
    refine ⟨h, ?_, Fi.rf, fun k => by rw [if_neg (by omega)]⟩
    rw [B_145_432]
    simp (decide := true) (disch := (first | assumption | (simp only [Sh_setI, Sm_setI, Sh_setL, Sm_setL]; assumption) | omega)) only [n_Ole, show 40 ≤ i by omega, B_145_451, bI_True, bI_False, p_max, p_min, p_abs, Option.bind_some, Option.bind_none, Option.toList_some, Option.toList_none, List.cons_append, List.nil_append, bI_eq0, bI_ne0, bI_ne1, bI_eq1, bI_01, eq_self, true_or, or_true, and_true, true_and, false_and, and_false, false_or, or_false, ite_true, ite_false, if_true, if_false, not_true, not_false_iff, Classical.not_not, nem, ite_not, ne_eq]
  | succ j ih =>
    intro i h e T
    obtain ⟨h1, e1, F, r⟩ := ih (i + 1) (setI h 71 i (-1)) (by omega) T.si
    refine ⟨h1, ?_, (Fi.si (P := fun a => a = 71) Fi.rf rfl).tr F, fun k => ?_⟩
    · rw [B_145_432]
      simp (decide := true) (disch := (first | assumption | (simp only [Sh_setI, Sm_setI, Sh_setL, Sm_setL]; assumption) | omega)) only [n_Ole, show ¬ 40 ≤ i by omega, B_145_438, T.kd (n := 56) (k := 11) rfl rfl, T.rf (n := 56) (f := 19) (k := 71) rfl rfl, T.kd (n := 71) (k := 100) rfl rfl, T.ln (n := 71) (k := 40) rfl rfl, n_ix, n_cl, n_addO, bI_True, bI_False, p_max, p_min, p_abs, Option.bind_some, Option.bind_none, Option.toList_some, Option.toList_none, List.cons_append, List.nil_append, bI_eq0, bI_ne0, bI_ne1, bI_eq1, bI_01, eq_self, true_or, or_true, and_true, true_and, false_and, and_false, false_or, or_false, ite_true, ite_false, if_true, if_false, not_true, not_false_iff, Classical.not_not, nem, ite_not, ne_eq]
      exact e1
    · rw [r, hI_eq]
      by_cases z : k = i
      · rw [if_neg (by omega), if_pos z, if_pos (by omega)]
      · rw [if_neg z]
        by_cases y : i + 1 ≤ k ∧ k < 40
        · rw [if_pos y, if_pos (by omega)]
        · rw [if_neg y, if_neg (by omega)]
theorem ctor_g (T : Sm h) : ∃ h1, Ev (d + 90) 145 364 [vr (some 56), vu] [] (setI (setI (setI h 74 0 0) 74 1 100050) 74 2 14) = some (none, h1) ∧ Fi (fun a => a = 71 ∨ a = 74 ∨ a = 75) h h1 ∧ (∀ k, hI h1 71 k = if k < 40 then -1 else hI h 71 k) ∧ (hI h1 75 0 = hI h 75 0 ∧ hI h1 75 1 = nI 7 ∧ hI h1 75 2 = nI 14) ∧ ∀ k o, (frA ++ frC)[k]? = some o → hI h1 74 k = encM o := by
  have T1 : Sm (setI (setI (setI h 74 0 0) 74 1 100050) 74 2 14) := T.si.si.si
  have F1 : Fi (fun a => a = 71 ∨ a = 74 ∨ a = 75) h (setI (setI (setI h 74 0 0) 74 1 100050) 74 2 14) := ((Fi.rf.si (by omega)).si (by omega)).si (by omega)
  have v1 : ∀ k, hI (setI (setI (setI h 74 0 0) 74 1 100050) 74 2 14) 74 k = if k = 2 then 14 else if k = 1 then 100050 else if k = 0 then 0 else hI h 74 k := fun k => by rw [hI_eq, hI_eq, hI_eq]
  have w1 : hI (setI (setI (setI h 74 0 0) 74 1 100050) 74 2 14) 75 = hI h 75 := by rw [hI_ne (by omega), hI_ne (by omega), hI_ne (by omega)]
  have u1 : hI (setI (setI (setI h 74 0 0) 74 1 100050) 74 2 14) 71 = hI h 71 := by rw [hI_ne (by omega), hI_ne (by omega), hI_ne (by omega)]
  generalize setI (setI (setI h 74 0 0) 74 1 100050) 74 2 14 = g1 at *
  have c1 : ∀ d, Cl (d + 4) 146 [vr (some 56), vi 3, vi 3, vi 100004, vi 14] g1 = some (none, setI (setI (setI g1 74 3 3) 74 4 100004) 74 5 14) := fun d => m_146 T1 (k := 3) (by omega)
  have T2 : Sm (setI (setI (setI g1 74 3 3) 74 4 100004) 74 5 14) := T1.si.si.si
  have F2 : Fi (fun a => a = 71 ∨ a = 74 ∨ a = 75) h (setI (setI (setI g1 74 3 3) 74 4 100004) 74 5 14) := ((F1.si (by omega)).si (by omega)).si (by omega)
  have v2 : ∀ k, hI (setI (setI (setI g1 74 3 3) 74 4 100004) 74 5 14) 74 k = if k = 5 then 14 else if k = 4 then 100004 else if k = 3 then 3 else hI g1 74 k := fun k => by rw [hI_eq, hI_eq, hI_eq]
  have w2 : hI (setI (setI (setI g1 74 3 3) 74 4 100004) 74 5 14) 75 = hI g1 75 := by rw [hI_ne (by omega), hI_ne (by omega), hI_ne (by omega)]
  obtain ⟨g2, eg2⟩ : ∃ x, setI (setI (setI g1 74 3 3) 74 4 100004) 74 5 14 = x := ⟨_, rfl⟩
  rw [eg2] at c1 T2 F2 v2 w2
  have T2' : Sm (setI g2 74 6 12) := T2.si
  have c2 : ∀ d, Cl (d + 4) 146 [vr (some 56), vi 7, vi 1, vi 100100, vi 14] (setI g2 74 6 12) = some (none, setI (setI (setI (setI g2 74 6 12) 74 7 1) 74 8 100100) 74 9 14) := fun d => m_146 T2' (k := 7) (by omega)
  have T3 : Sm (setI (setI (setI (setI g2 74 6 12) 74 7 1) 74 8 100100) 74 9 14) := T2'.si.si.si
  have F3 : Fi (fun a => a = 71 ∨ a = 74 ∨ a = 75) h (setI (setI (setI (setI g2 74 6 12) 74 7 1) 74 8 100100) 74 9 14) := (((F2.si (by omega)).si (by omega)).si (by omega)).si (by omega)
  have v3 : ∀ k, hI (setI (setI (setI (setI g2 74 6 12) 74 7 1) 74 8 100100) 74 9 14) 74 k = if k = 9 then 14 else if k = 8 then 100100 else if k = 7 then 1 else if k = 6 then 12 else hI g2 74 k := fun k => by rw [hI_eq, hI_eq, hI_eq, hI_eq]
  have w3 : hI (setI (setI (setI (setI g2 74 6 12) 74 7 1) 74 8 100100) 74 9 14) 75 = hI g2 75 := by rw [hI_ne (by omega), hI_ne (by omega), hI_ne (by omega), hI_ne (by omega)]
  obtain ⟨g3, eg3⟩ : ∃ x, setI (setI (setI (setI g2 74 6 12) 74 7 1) 74 8 100100) 74 9 14 = x := ⟨_, rfl⟩
  rw [eg3] at c2 T3 F3 v3 w3
  have c3 : ∀ d, Cl (d + 4) 146 [vr (some 56), vi 10, vi 100004, vi 2, vi 15] g3 = some (none, setI (setI (setI g3 74 10 100004) 74 11 2) 74 12 15) := fun d => m_146 T3 (k := 10) (by omega)
  have T4 : Sm (setI (setI (setI g3 74 10 100004) 74 11 2) 74 12 15) := T3.si.si.si
  have F4 : Fi (fun a => a = 71 ∨ a = 74 ∨ a = 75) h (setI (setI (setI g3 74 10 100004) 74 11 2) 74 12 15) := ((F3.si (by omega)).si (by omega)).si (by omega)
  have v4 : ∀ k, hI (setI (setI (setI g3 74 10 100004) 74 11 2) 74 12 15) 74 k = if k = 12 then 15 else if k = 11 then 2 else if k = 10 then 100004 else hI g3 74 k := fun k => by rw [hI_eq, hI_eq, hI_eq]
  have w4 : hI (setI (setI (setI g3 74 10 100004) 74 11 2) 74 12 15) 75 = hI g3 75 := by rw [hI_ne (by omega), hI_ne (by omega), hI_ne (by omega)]
  obtain ⟨g4, eg4⟩ : ∃ x, setI (setI (setI g3 74 10 100004) 74 11 2) 74 12 15 = x := ⟨_, rfl⟩
  rw [eg4] at c3 T4 F4 v4 w4
  have T5 : Sm (setI g4 74 13 11) := T4.si
  have T6 : Sm (setI (setI g4 74 13 11) 75 1 7) := T5.si
  have T7 : Sm (setI (setI (setI g4 74 13 11) 75 1 7) 75 2 14) := T6.si
  have F7 : Fi (fun a => a = 71 ∨ a = 74 ∨ a = 75) h (setI (setI (setI g4 74 13 11) 75 1 7) 75 2 14) := ((F4.si (by omega)).si (by omega)).si (by omega)
  obtain ⟨h1, e1, F8, r8⟩ := m_lp (d := d + 86) 40 0 _ rfl T7
  have e1' : Ev (d + 90) 145 432 [vr (some 56), vi 0] [] (setI (setI (setI g4 74 13 11) 75 1 7) 75 2 14) = some (none, h1) := e1
  refine ⟨h1, ?_, F7.tr (F8.mono (fun n q => Or.inl q)), fun k => ?_, ⟨?_, ?_, ?_⟩, fun k o z => ?_⟩
  · have k56 : ∀ g, Sm g → hkd g 56 = 11 := fun g T => T.kd (n := 56) (k := 11) rfl rfl
    have k74 : ∀ g, Sm g → hkd g 74 = 100 := fun g T => T.kd (n := 74) (k := 100) rfl rfl
    have l74 : ∀ g, Sm g → hln g 74 = 1200 := fun g T => T.ln (n := 74) (k := 1200) rfl rfl
    have k75 : ∀ g, Sm g → hkd g 75 = 100 := fun g T => T.kd (n := 75) (k := 100) rfl rfl
    have l75 : ∀ g, Sm g → hln g 75 = 24 := fun g T => T.ln (n := 75) (k := 24) rfl rfl
    have r74 : ∀ g, Sm g → hR g 56 23 = some 74 := fun g T => T.rf (n := 56) (f := 23) (k := 74) rfl rfl
    have r75 : ∀ g, Sm g → hR g 56 24 = some 75 := fun g T => T.rf (n := 56) (f := 24) (k := 75) rfl rfl
    simp (decide := true) (disch := (first | assumption | (simp only [Sh_setI, Sm_setI, Sh_setL, Sm_setL]; assumption) | omega)) only [B_145_364, k56 _ T1, c1, B_145_374, k56 _ T2, r74 _ T2, k74 _ T2, l74 _ T2, k56 _ T2', n_ixO, n_clO, c2, B_145_394, k56 _ T3, c3, B_145_405, k56 _ T4, r74 _ T4, k74 _ T4, l74 _ T4, k56 _ T5, r75 _ T5, k75 _ T5, l75 _ T5, B_145_422, k56 _ T6, r75 _ T6, k75 _ T6, l75 _ T6, e1', bI_True, bI_False, p_max, p_min, p_abs, Option.bind_some, Option.bind_none, Option.toList_some, Option.toList_none, List.cons_append, List.nil_append, bI_eq0, bI_ne0, bI_ne1, bI_eq1, bI_01, eq_self, true_or, or_true, and_true, true_and, false_and, and_false, false_or, or_false, ite_true, ite_false, if_true, if_false, not_true, not_false_iff, Classical.not_not, nem, ite_not, ne_eq]
  · rw [r8, hI_ne (by omega), hI_ne (by omega), hI_ne (by omega)]
    have : hI g4 71 = hI h 71 := by
      rw [← eg4, hI_ne (by omega), hI_ne (by omega), hI_ne (by omega), ← eg3, hI_ne (by omega), hI_ne (by omega), hI_ne (by omega), hI_ne (by omega), ← eg2, hI_ne (by omega), hI_ne (by omega), hI_ne (by omega)]
      exact u1
    rw [this]
    by_cases y : k < 40
    · rw [if_pos ⟨Nat.zero_le _, y⟩, if_pos y]
    · rw [if_neg (fun w => y w.2), if_neg y]
  · rw [F8.2.2.2.2.2 75 (by omega), hI_eq, if_neg (by omega), hI_eq, if_neg (by omega), hI_ne (by omega), w4, w3, w2, w1]
  · rw [F8.2.2.2.2.2 75 (by omega), hI_eq, if_neg (by omega), hI_eq, if_pos rfl]; rfl
  · rw [F8.2.2.2.2.2 75 (by omega), hI_eq, if_pos rfl]; rfl
  · rw [F8.2.2.2.2.2 74 (by omega), hI_ne (by omega), hI_ne (by omega), hI_eq, v4, v3, v2, v1]
    have kl := (List.getElem?_eq_some_iff.mp z).1
    have kl : k < 14 := kl
    have all : ∀ k, k < 14 → (if k = 13 then (11 : Int32) else if k = 12 then 15 else if k = 11 then 2 else if k = 10 then 100004 else if k = 9 then 14 else if k = 8 then 100100 else if k = 7 then 1 else if k = 6 then 12 else if k = 5 then 14 else if k = 4 then 100004 else if k = 3 then 3 else if k = 2 then 14 else if k = 1 then 100050 else if k = 0 then 0 else 77) = encM ((frA ++ frC).getD k (.inl 0)) := by decide +kernel
    have eo : (frA ++ frC).getD k (.inl 0) = o := by rw [List.getD_eq_getElem?_getD, z]; rfl
    rw [← eo, ← all k kl]
    by_cases k0 : k = 0
    · rw [if_pos k0, if_pos k0]
    · have : k ≠ 0 := k0
      rcases (by omega : k = 1 ∨ k = 2 ∨ k = 3 ∨ k = 4 ∨ k = 5 ∨ k = 6 ∨ k = 7 ∨ k = 8 ∨ k = 9 ∨ k = 10 ∨ k = 11 ∨ k = 12 ∨ k = 13) with rfl | rfl | rfl | rfl | rfl | rfl | rfl | rfl | rfl | rfl | rfl | rfl | rfl <;> rfl
end CTORG
