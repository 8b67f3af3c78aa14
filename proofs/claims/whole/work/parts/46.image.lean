/-! image -/
theorem hI_cpy {h : am_H} {a i b j n c q : Nat} : hI (cpyI h a i b j n) c q = if c = b ∧ j ≤ q ∧ q < j + n then hI h a (i + (q - j)) else hI h c q := Eq.trans rfl rfl
theorem Fi.cp {P : Nat → Prop} {h h' : am_H} (F : Fi P h h') {a i b j n : Nat} (q : P b) : Fi P h (cpyI h' a i b j n) := ⟨F.1, F.2.1, F.2.2.1, F.2.2.2.1, F.2.2.2.2.1, fun c q1 => by
  rw [← F.2.2.2.2.2 c q1]
  exact funext fun z => by rw [hI_cpy, if_neg (fun w => q1 (by rw [w.1]; exact q))]⟩
abbrev pIm (a : Nat) : Prop := 35 ≤ a ∧ a ≤ 43
section IMAGE
variable {d : Nat} {h : am_H}
theorem sh_im (S : Sh h) {s : Nat} (hs : s < 2) : hR h 36 s = some (37 + s) ∧ hkd h (37 + s) = 100 ∧ hln h (37 + s) = 5 := by
  match s, hs with
  | 0, _ => exact ⟨S.rf rfl rfl, S.kd rfl rfl, S.ln rfl rfl⟩
  | 1, _ => exact ⟨S.rf rfl rfl, S.kd rfl rfl, S.ln rfl rfl⟩
theorem c_keepSlows (S : Sh h) {n : Nat} (hn : hI h 2 2 = nI n) (h5 : n ≤ 5) : ∃ h1, Cl (d + 5) 124 [vr (some 35), vr (some 2)] h = some (none, h1) ∧ Fi pIm h h1 ∧ (∀ a, a ≠ 35 → a ≠ 37 → a ≠ 38 → hI h1 a = hI h a) ∧ (∀ q, hI h1 35 q = if q = 1 then nI n else hI h 35 q) ∧ (∀ q, q < n → hI h1 37 q = hI h 5 q) ∧ ∀ q, q < n → hI h1 38 q = hI h 6 q := by
  have S1 : Sh (setI h 35 1 (nI n)) := S.si
  have F1 : Fi pIm h (cpyI (setI h 35 1 (nI n)) 5 0 37 0 n) := (Fi.rf.si (by omega)).cp (by omega)
  have S2 : Sh (cpyI (setI h 35 1 (nI n)) 5 0 37 0 n) := F1.sh S
  have F2 : Fi pIm h (cpyI (cpyI (setI h 35 1 (nI n)) 5 0 37 0 n) 6 0 38 0 n) := F1.cp (by omega)
  refine ⟨cpyI (cpyI (setI h 35 1 (nI n)) 5 0 37 0 n) 6 0 38 0 n, ?_, F2, fun a q1 q2 q3 => funext fun z => ?_, fun q => ?_, fun q hq => ?_, fun q hq => ?_⟩
  · rw [E_124, B_124_0 S, hn, B_124_10]
    have e35 : hI (setI h 35 1 (nI n)) 35 1 = nI n := by rw [hI_eq, if_pos rfl]
    simp (decide := true) (disch := (first | assumption | (simp only [Sh_setI, Sm_setI, Sh_setL, Sm_setL]; assumption) | omega)) only [B_124_15 S1, n_ixO, n_clO, S1.rf (n := 4) (f := 0) (k := 5) rfl rfl, S1.rf (n := 36) (f := 0) (k := 37) rfl rfl, e35, p_cpy, S1.kd (n := 5) (k := 100) rfl rfl, S1.kd (n := 37) (k := 100) rfl rfl, S1.ln (n := 5) (k := 5) rfl rfl, S1.ln (n := 37) (k := 5) rfl rfl, n_Ole, Nat.zero_le, n_cl, Nat.zero_add, h5, B_124_36, bI_True, bI_False, p_max, p_min, p_abs, Option.bind_some, Option.bind_none, Option.toList_some, Option.toList_none, List.cons_append, List.nil_append, bI_eq0, bI_ne0, bI_ne1, bI_eq1, bI_01, eq_self, true_or, or_true, and_true, true_and, false_and, and_false, false_or, or_false, ite_true, ite_false, if_true, if_false, not_true, not_false_iff, Classical.not_not, nem, ite_not, ne_eq]
    rw [B_124_10]
    have e35' : hI (cpyI (setI h 35 1 (nI n)) 5 0 37 0 n) 35 1 = nI n := by rw [hI_cpy, if_neg (by omega), e35]
    simp (decide := true) (disch := (first | assumption | (simp only [Sh_setI, Sm_setI, Sh_setL, Sm_setL]; assumption) | omega)) only [B_124_15 S2, n_ixO, n_clO, show (0 : Int32) + 1 = 1 by decide, S2.rf (n := 4) (f := 1) (k := 6) rfl rfl, S2.rf (n := 36) (f := 1) (k := 38) rfl rfl, e35', p_cpy, S2.kd (n := 6) (k := 100) rfl rfl, S2.kd (n := 38) (k := 100) rfl rfl, S2.ln (n := 6) (k := 5) rfl rfl, S2.ln (n := 38) (k := 5) rfl rfl, n_Ole, Nat.zero_le, n_cl, Nat.zero_add, h5, B_124_36, bI_True, bI_False, p_max, p_min, p_abs, Option.bind_some, Option.bind_none, Option.toList_some, Option.toList_none, List.cons_append, List.nil_append, bI_eq0, bI_ne0, bI_ne1, bI_eq1, bI_01, eq_self, true_or, or_true, and_true, true_and, false_and, and_false, false_or, or_false, ite_true, ite_false, if_true, if_false, not_true, not_false_iff, Classical.not_not, nem, ite_not, ne_eq]
    rw [B_124_10]
    simp (decide := true) (disch := (first | assumption | (simp only [Sh_setI, Sm_setI, Sh_setL, Sm_setL]; assumption) | omega)) only [show (1 : Int32) + 1 = 2 by decide, B_124_42, bI_True, bI_False, p_max, p_min, p_abs, Option.bind_some, Option.bind_none, Option.toList_some, Option.toList_none, List.cons_append, List.nil_append, bI_eq0, bI_ne0, bI_ne1, bI_eq1, bI_01, eq_self, true_or, or_true, and_true, true_and, false_and, and_false, false_or, or_false, ite_true, ite_false, if_true, if_false, not_true, not_false_iff, Classical.not_not, nem, ite_not, ne_eq]
  · rw [hI_cpy, if_neg (by omega), hI_cpy, if_neg (by omega), hI_ne (by omega)]
  · rw [hI_cpy, if_neg (by omega), hI_cpy, if_neg (by omega), hI_eq]
  · rw [hI_cpy, if_neg (by omega), hI_cpy, if_pos (by omega), hI_ne (by omega)]
    congr 1; omega
  · rw [hI_cpy, if_pos (by omega), hI_cpy, if_neg (by omega), hI_ne (by omega)]
    congr 1; omega
theorem c_imD (S : Sh h) {m : am_M} (C : CrD m h) (h8 : yD m ≤ 8) (hD : hI h 1 4 = nI (yD m)) : ∀ j k h', k + j = yD m → Fi pIm h h' → ∃ h1, Ev (d + 6) 122 32 [vr (some 1), vi (nI k)] [] h' = Ev (d + 6) 122 58 [vr (some 1), vi (nI (yD m))] [] h1 ∧ Fi pIm h h1 ∧ (∀ a, a ≠ 39 → hI h1 a = hI h' a) ∧ ∀ q, hI h1 39 q = if k ≤ q ∧ q < yD m then m 60 q else hI h' 39 q := by
  intro j
  induction j with
  | zero =>
    intro k h' e F
    have S' := F.sh S
    refine ⟨h', ?_, F, fun _ _ => rfl, fun q => by rw [if_neg (by omega)]⟩
    rw [show k = yD m by omega]
    simp (decide := true) (disch := (first | assumption | (simp only [Sh_setI, Sm_setI, Sh_setL, Sm_setL]; assumption) | omega)) only [B_122_32 S', F.2.2.2.2.2 1 (by omega), hD, n_leT, bI_True, bI_False, p_max, p_min, p_abs, Option.bind_some, Option.bind_none, Option.toList_some, Option.toList_none, List.cons_append, List.nil_append, bI_eq0, bI_ne0, bI_ne1, bI_eq1, bI_01, eq_self, true_or, or_true, and_true, true_and, false_and, and_false, false_or, or_false, ite_true, ite_false, if_true, if_false, not_true, not_false_iff, Classical.not_not, nem, ite_not, ne_eq]
  | succ j ih =>
    intro k h' e F
    have S' := F.sh S
    obtain ⟨n, n1, n2, n3, n4, n5, n6, n7, n8⟩ := C.2 k (by omega)
    obtain ⟨h1, e1, F1, f1, f2⟩ := ih (k + 1) (setI h' 39 k (m 60 k)) (by omega) (F.si (by omega))
    have e4 : hI h' 1 4 = nI (yD m) := by rw [F.2.2.2.2.2 1 (by omega)]; exact hD
    have en : hI h' n = hI h n := F.2.2.2.2.2 n (by omega)
    refine ⟨h1, ?_, F1, fun a q => ?_, fun q => ?_⟩
    · rw [B_122_32 S']
      simp (decide := true) (disch := (first | assumption | (simp only [Sh_setI, Sm_setI, Sh_setL, Sm_setL]; assumption) | omega)) only [e4, n_leF, B_122_40 S', c_drumAt S' e4 h8 (show k < yD m by omega), F.2.2.2.1, n1, B_122_49, S'.kd (n := 35) (k := 5) rfl rfl, S.kd (n := 35) (k := 5) rfl rfl, E_125, B_125_0, B_125_4 S', F.2.1, n2, en, n5, n8, n_ix, n_cl, B_125_17, B_122_52, n_addO, reduceCtorEq, bI_True, bI_False, p_max, p_min, p_abs, Option.bind_some, Option.bind_none, Option.toList_some, Option.toList_none, List.cons_append, List.nil_append, bI_eq0, bI_ne0, bI_ne1, bI_eq1, bI_01, eq_self, true_or, or_true, and_true, true_and, false_and, and_false, false_or, or_false, ite_true, ite_false, if_true, if_false, not_true, not_false_iff, Classical.not_not, nem, ite_not, ne_eq]
      exact e1
    · rw [f1 a q, hI_ne q]
    · rw [f2, hI_eq]
      by_cases w : q = k
      · rw [if_neg (by omega), if_pos w, if_pos (by omega), w]
      · rw [if_neg w]
        by_cases z : k + 1 ≤ q ∧ q < yD m
        · rw [if_pos z, if_pos (by omega)]
        · rw [if_neg z, if_neg (by omega)]
theorem c_imS (S : Sh h) {m : am_M} (C : CrS m h) (h8 : yS m ≤ 6) (hD : hI h 1 5 = nI (yS m)) : ∀ j k h', k + j = yS m → Fi pIm h h' → ∃ h1, Ev (d + 6) 122 60 [vr (some 1), vi (nI k)] [] h' = Ev (d + 6) 122 86 [vr (some 1), vi (nI (yS m))] [] h1 ∧ Fi pIm h h1 ∧ (∀ a, a ≠ 40 → a ≠ 41 → a ≠ 42 → hI h1 a = hI h' a) ∧ (∀ q, hI h1 40 q = if k ≤ q ∧ q < yS m then m 62 q else hI h' 40 q) ∧ (∀ q, hI h1 41 q = if k ≤ q ∧ q < yS m then m 63 q else hI h' 41 q) ∧ ∀ q, hI h1 42 q = if k ≤ q ∧ q < yS m then m 64 q else hI h' 42 q := by
  intro j
  induction j with
  | zero =>
    intro k h' e F
    have S' := F.sh S
    refine ⟨h', ?_, F, fun _ _ _ _ => rfl, fun q => by rw [if_neg (by omega)], fun q => by rw [if_neg (by omega)], fun q => by rw [if_neg (by omega)]⟩
    rw [show k = yS m by omega]
    simp (decide := true) (disch := (first | assumption | (simp only [Sh_setI, Sm_setI, Sh_setL, Sm_setL]; assumption) | omega)) only [B_122_60 S', F.2.2.2.2.2 1 (by omega), hD, n_leT, bI_True, bI_False, p_max, p_min, p_abs, Option.bind_some, Option.bind_none, Option.toList_some, Option.toList_none, List.cons_append, List.nil_append, bI_eq0, bI_ne0, bI_ne1, bI_eq1, bI_01, eq_self, true_or, or_true, and_true, true_and, false_and, and_false, false_or, or_false, ite_true, ite_false, if_true, if_false, not_true, not_false_iff, Classical.not_not, nem, ite_not, ne_eq]
  | succ j ih =>
    intro k h' e F
    have S' := F.sh S
    obtain ⟨n, n1, n2, n3, n4, n5, n6, n7, n8⟩ := C.2 k (by omega)
    have F3 : Fi pIm h (setI (setI (setI h' 40 k (m 62 k)) 41 k (m 63 k)) 42 k (m 64 k)) := ((F.si (by omega)).si (by omega)).si (by omega)
    obtain ⟨h1, e1, F1, f1, f40, f41, f42⟩ := ih (k + 1) (setI (setI (setI h' 40 k (m 62 k)) 41 k (m 63 k)) 42 k (m 64 k)) (by omega) F3
    have e4 : hI h' 1 5 = nI (yS m) := by rw [F.2.2.2.2.2 1 (by omega)]; exact hD
    have en : hI h' n = hI h n := F.2.2.2.2.2 n (by omega)
    refine ⟨h1, ?_, F1, fun a q1 q2 q3 => ?_, fun q => ?_, fun q => ?_, fun q => ?_⟩
    · rw [B_122_60 S']
      simp (decide := true) (disch := (first | assumption | (simp only [Sh_setI, Sm_setI, Sh_setL, Sm_setL]; assumption) | omega)) only [e4, n_leF, B_122_68 S', c_shakeAt S' e4 h8 (show k < yS m by omega), F.2.2.2.1, n1, B_122_77, S'.kd (n := 35) (k := 5) rfl rfl, S.kd (n := 35) (k := 5) rfl rfl, E_126, B_126_0, B_126_4 S', F.2.1, n2, en, n5, n6, n7, n_ix, n_cl, reduceCtorEq, xkd_setI, hI_ne, bI_True, bI_False, p_max, p_min, p_abs, Option.bind_some, Option.bind_none, Option.toList_some, Option.toList_none, List.cons_append, List.nil_append, bI_eq0, bI_ne0, bI_ne1, bI_eq1, bI_01, eq_self, true_or, or_true, and_true, true_and, false_and, and_false, false_or, or_false, ite_true, ite_false, if_true, if_false, not_true, not_false_iff, Classical.not_not, nem, ite_not, ne_eq]
      have S3 : Sh (setI (setI h' 40 k (m 62 k)) 41 k (m 63 k)) := S'.si.si
      simp (decide := true) (disch := (first | assumption | (simp only [Sh_setI, Sm_setI, Sh_setL, Sm_setL]; assumption) | omega)) only [B_126_30 S3, xkd_setI, F.2.1, n2, hI_ne, en, n5, n8, n_ix, n_cl, B_126_43, B_122_80, n_addO, bI_True, bI_False, p_max, p_min, p_abs, Option.bind_some, Option.bind_none, Option.toList_some, Option.toList_none, List.cons_append, List.nil_append, bI_eq0, bI_ne0, bI_ne1, bI_eq1, bI_01, eq_self, true_or, or_true, and_true, true_and, false_and, and_false, false_or, or_false, ite_true, ite_false, if_true, if_false, not_true, not_false_iff, Classical.not_not, nem, ite_not, ne_eq]
      exact e1
    · rw [f1 a q1 q2 q3, hI_ne q3, hI_ne q2, hI_ne q1]
    · rw [f40, hI_ne (by omega), hI_ne (by omega), hI_eq]
      by_cases w : q = k
      · rw [if_neg (by omega), if_pos w, if_pos (by omega), w]
      · rw [if_neg w]
        by_cases z : k + 1 ≤ q ∧ q < yS m
        · rw [if_pos z, if_pos (by omega)]
        · rw [if_neg z, if_neg (by omega)]
    · rw [f41, hI_ne (by omega), hI_eq]
      by_cases w : q = k
      · rw [if_neg (by omega), if_pos w, if_pos (by omega), w]
      · rw [if_neg w, hI_ne (by omega)]
        by_cases z : k + 1 ≤ q ∧ q < yS m
        · rw [if_pos z, if_pos (by omega)]
        · rw [if_neg z, if_neg (by omega)]
    · rw [f42, hI_eq]
      by_cases w : q = k
      · rw [if_neg (by omega), if_pos w, if_pos (by omega), w]
      · rw [if_neg w, hI_ne (by omega), hI_ne (by omega)]
        by_cases z : k + 1 ≤ q ∧ q < yS m
        · rw [if_pos z, if_pos (by omega)]
        · rw [if_neg z, if_neg (by omega)]
theorem c_imC (S : Sh h) {m : am_M} (C : CrC m h) (hw : ∀ k, k < yC m → m 72 k = 0 ∨ m 72 k = 1) (h8 : yC m ≤ 40) (hD : hI h 1 6 = nI (yC m)) : ∀ j k h', k + j = yC m → Fi pIm h h' → ∃ h1, Ev (d + 6) 122 88 [vr (some 1), vi (nI k)] [] h' = Ev (d + 6) 122 115 [vr (some 1), vi (nI (yC m))] [] h1 ∧ Fi pIm h h1 ∧ (∀ a, a ≠ 43 → hI h1 a = hI h' a) ∧ ∀ q, hI h1 43 q = if k ≤ q ∧ q < yC m then m 72 q else hI h' 43 q := by
  intro j
  induction j with
  | zero =>
    intro k h' e F
    have S' := F.sh S
    refine ⟨h', ?_, F, fun _ _ => rfl, fun q => by rw [if_neg (by omega)]⟩
    rw [show k = yC m by omega]
    simp (decide := true) (disch := (first | assumption | (simp only [Sh_setI, Sm_setI, Sh_setL, Sm_setL]; assumption) | omega)) only [B_122_88 S', F.2.2.2.2.2 1 (by omega), hD, n_leT, bI_True, bI_False, p_max, p_min, p_abs, Option.bind_some, Option.bind_none, Option.toList_some, Option.toList_none, List.cons_append, List.nil_append, bI_eq0, bI_ne0, bI_ne1, bI_eq1, bI_01, eq_self, true_or, or_true, and_true, true_and, false_and, and_false, false_or, or_false, ite_true, ite_false, if_true, if_false, not_true, not_false_iff, Classical.not_not, nem, ite_not, ne_eq]
  | succ j ih =>
    intro k h' e F
    have S' := F.sh S
    obtain ⟨n, n1, n2, n3, n4, n5, n6, n7, n8, n9, n10, n11, n12⟩ := C.2.1 k (by omega)
    obtain ⟨h1, e1, F1, f1, f2⟩ := ih (k + 1) (setI h' 43 k (m 72 k)) (by omega) (F.si (by omega))
    have e4 : hI h' 1 6 = nI (yC m) := by rw [F.2.2.2.2.2 1 (by omega)]; exact hD
    have en : hI h' n = hI h n := F.2.2.2.2.2 n (by omega)
    have hz := hw k (by omega)
    refine ⟨h1, ?_, F1, fun a q => ?_, fun q => ?_⟩
    · rw [B_122_88 S']
      simp (decide := true) (disch := (first | assumption | (simp only [Sh_setI, Sm_setI, Sh_setL, Sm_setL]; assumption) | omega)) only [e4, n_leF, B_122_96 S', c_cardAt S' e4 h8 (show k < yC m by omega), F.2.2.2.1, n1, B_122_106, S'.kd (n := 35) (k := 5) rfl rfl, S.kd (n := 35) (k := 5) rfl rfl, E_127, B_127_0, B_127_4 S', F.2.1, n2, en, n11, hz, n_ix, n_cl, B_127_14, B_122_109, n_addO, reduceCtorEq, bI_True, bI_False, p_max, p_min, p_abs, Option.bind_some, Option.bind_none, Option.toList_some, Option.toList_none, List.cons_append, List.nil_append, bI_eq0, bI_ne0, bI_ne1, bI_eq1, bI_01, eq_self, true_or, or_true, and_true, true_and, false_and, and_false, false_or, or_false, ite_true, ite_false, if_true, if_false, not_true, not_false_iff, Classical.not_not, nem, ite_not, ne_eq]
      exact e1
    · rw [f1 a q, hI_ne q]
    · rw [f2, hI_eq]
      by_cases w : q = k
      · rw [if_neg (by omega), if_pos w, if_pos (by omega), w]
      · rw [if_neg w]
        by_cases z : k + 1 ≤ q ∧ q < yC m
        · rw [if_pos z, if_pos (by omega)]
        · rw [if_neg z, if_neg (by omega)]
end IMAGE
