/-! back: the rows of the ball; the model's side -/
section BACK2
variable {d : Nat} {h : am_H} {m : am_M}
theorem c_bringSlows (S : Sh h) {n : Nat} (hn : hI h 35 1 = nI n) (h5 : n ≤ 5) : Cl (d + 5) 129 [vr (some 35), vr (some 2)] h = some (none, cpyI (cpyI h 37 0 5 0 n) 38 0 6 0 n) := by
  have F1 : Fi (fun a => a = 5 ∨ a = 6) h (cpyI h 37 0 5 0 n) := Fi.rf.cp (Or.inl rfl)
  have S2 : Sh (cpyI h 37 0 5 0 n) := F1.sh S
  rw [E_129, B_129_0, B_129_2]
  simp (decide := true) (disch := (first | assumption | (simp only [Sh_setI, Sm_setI, Sh_setL, Sm_setL]; assumption) | omega)) only [B_129_7 S, n_ixO, n_clO, S.rf (n := 4) (f := 0) (k := 5) rfl rfl, S.rf (n := 36) (f := 0) (k := 37) rfl rfl, hn, p_cpy, S.kd (n := 5) (k := 100) rfl rfl, S.kd (n := 37) (k := 100) rfl rfl, S.ln (n := 5) (k := 5) rfl rfl, S.ln (n := 37) (k := 5) rfl rfl, n_Ole, Nat.zero_le, n_cl, Nat.zero_add, h5, B_129_28, bI_True, bI_False, p_max, p_min, p_abs, Option.bind_some, Option.bind_none, Option.toList_some, Option.toList_none, List.cons_append, List.nil_append, bI_eq0, bI_ne0, bI_ne1, bI_eq1, bI_01, eq_self, true_or, or_true, and_true, true_and, false_and, and_false, false_or, or_false, ite_true, ite_false, if_true, if_false, not_true, not_false_iff, Classical.not_not, nem, ite_not, ne_eq]
  rw [B_129_2]
  have e35' : hI (cpyI h 37 0 5 0 n) 35 1 = nI n := by rw [hI_cpy, if_neg (by omega), hn]
  simp (decide := true) (disch := (first | assumption | (simp only [Sh_setI, Sm_setI, Sh_setL, Sm_setL]; assumption) | omega)) only [B_129_7 S2, n_ixO, n_clO, show (0 : Int32) + 1 = 1 by decide, S2.rf (n := 4) (f := 1) (k := 6) rfl rfl, S2.rf (n := 36) (f := 1) (k := 38) rfl rfl, e35', p_cpy, S2.kd (n := 6) (k := 100) rfl rfl, S2.kd (n := 38) (k := 100) rfl rfl, S2.ln (n := 6) (k := 5) rfl rfl, S2.ln (n := 38) (k := 5) rfl rfl, n_Ole, Nat.zero_le, n_cl, Nat.zero_add, h5, B_129_28, bI_True, bI_False, p_max, p_min, p_abs, Option.bind_some, Option.bind_none, Option.toList_some, Option.toList_none, List.cons_append, List.nil_append, bI_eq0, bI_ne0, bI_ne1, bI_eq1, bI_01, eq_self, true_or, or_true, and_true, true_and, false_and, and_false, false_or, or_false, ite_true, ite_false, if_true, if_false, not_true, not_false_iff, Classical.not_not, nem, ite_not, ne_eq]
  rw [B_129_2]
  simp (decide := true) (disch := (first | assumption | (simp only [Sh_setI, Sm_setI, Sh_setL, Sm_setL]; assumption) | omega)) only [show (1 : Int32) + 1 = 2 by decide, B_129_34, bI_True, bI_False, p_max, p_min, p_abs, Option.bind_some, Option.bind_none, Option.toList_some, Option.toList_none, List.cons_append, List.nil_append, bI_eq0, bI_ne0, bI_ne1, bI_eq1, bI_01, eq_self, true_or, or_true, and_true, true_and, false_and, and_false, false_or, or_false, ite_true, ite_false, if_true, if_false, not_true, not_false_iff, Classical.not_not, nem, ite_not, ne_eq]
theorem set_slows (C : CR m h) (i8 : yD m ≤ 8) (i6 : yS m ≤ 6) {n : Nat} (h5 : n ≤ 5) : ∃ m1, CR m1 (cpyI (cpyI h 37 0 5 0 n) 38 0 6 0 n) ∧ (∀ a, a ≠ 58 → m1 a = m a) ∧ ∀ q, m1 58 q = if q < n then hI h 37 q else if 5 ≤ q ∧ q < 5 + n then hI h 38 (q - 5) else m 58 q := by
  obtain ⟨m1, hm1⟩ : ∃ m1 : am_M, m1 = fun a q => if a = 58 then (if q < n then hI h 37 q else if 5 ≤ q ∧ q < 5 + n then hI h 38 (q - 5) else m 58 q) else m a q := ⟨_, rfl⟩
  have mm : ∀ a, a ≠ 58 → m1 a = m a := fun a q => by rw [hm1]; exact funext fun j => if_neg q
  have m58 : ∀ q, m1 58 q = if q < n then hI h 37 q else if 5 ≤ q ∧ q < 5 + n then hI h 38 (q - 5) else m 58 q := fun q => by rw [hm1]; exact if_pos rfl
  obtain ⟨h1, hh⟩ : ∃ h1, h1 = cpyI (cpyI h 37 0 5 0 n) 38 0 6 0 n := ⟨_, rfl⟩
  have F : Fi (fun a => a = 5 ∨ a = 6) h h1 := by rw [hh]; exact (Fi.rf.cp (Or.inl rfl)).cp (Or.inr rfl)
  have K : Kd 999 h h1 := F.kd (fun n q => by omega)
  have st : ∀ a, ¬ (a = 5 ∨ a = 6) → hI h1 a = hI h a := F.2.2.2.2.2
  have x5 : ∀ q, hI h1 5 q = if q < n then hI h 37 q else hI h 5 q := fun q => by
    rw [hh, hI_cpy, if_neg (by omega), hI_cpy]
    by_cases z : q < n
    · rw [if_pos (by omega), if_pos z]; congr 1; omega
    · rw [if_neg (by omega), if_neg z]
  have x6 : ∀ q, hI h1 6 q = if q < n then hI h 38 q else hI h 6 q := fun q => by
    rw [hh, hI_cpy]
    by_cases z : q < n
    · rw [if_pos (by omega), if_pos z, hI_cpy, if_neg (by omega)]; congr 1; omega
    · rw [if_neg (by omega), if_neg z, hI_cpy, if_neg (by omega)]
  rw [← hh]
  refine ⟨m1, ⟨⟨?_, ?_, fun k hk => ?_⟩, (Kd.d K (by decide) C.2.1 (by simp (decide := true) (disch := (first | assumption | (simp only [Sh_setI, Sm_setI, Sh_setL, Sm_setL]; assumption) | omega)) only [st, bI_True, bI_False, p_max, p_min, p_abs, Option.bind_some, Option.bind_none, Option.toList_some, Option.toList_none, List.cons_append, List.nil_append, bI_eq0, bI_ne0, bI_ne1, bI_eq1, bI_01, eq_self, true_or, or_true, and_true, true_and, false_and, and_false, false_or, or_false, ite_true, ite_false, if_true, if_false, not_true, not_false_iff, Classical.not_not, nem, ite_not, ne_eq]) (by simp (decide := true) (disch := (first | assumption | (simp only [Sh_setI, Sm_setI, Sh_setL, Sm_setL]; assumption) | omega)) only [mm, bI_True, bI_False, p_max, p_min, p_abs, Option.bind_some, Option.bind_none, Option.toList_some, Option.toList_none, List.cons_append, List.nil_append, bI_eq0, bI_ne0, bI_ne1, bI_eq1, bI_01, eq_self, true_or, or_true, and_true, true_and, false_and, and_false, false_or, or_false, ite_true, ite_false, if_true, if_false, not_true, not_false_iff, Classical.not_not, nem, ite_not, ne_eq]) (fun k hk => by simp (decide := true) (disch := (first | assumption | (simp only [Sh_setI, Sm_setI, Sh_setL, Sm_setL]; assumption) | omega)) only [mm, bI_True, bI_False, p_max, p_min, p_abs, Option.bind_some, Option.bind_none, Option.toList_some, Option.toList_none, List.cons_append, List.nil_append, bI_eq0, bI_ne0, bI_ne1, bI_eq1, bI_01, eq_self, true_or, or_true, and_true, true_and, false_and, and_false, false_or, or_false, ite_true, ite_false, if_true, if_false, not_true, not_false_iff, Classical.not_not, nem, ite_not, ne_eq]) i8), (Kd.s K (by decide) C.2.2.1 (by simp (decide := true) (disch := (first | assumption | (simp only [Sh_setI, Sm_setI, Sh_setL, Sm_setL]; assumption) | omega)) only [st, bI_True, bI_False, p_max, p_min, p_abs, Option.bind_some, Option.bind_none, Option.toList_some, Option.toList_none, List.cons_append, List.nil_append, bI_eq0, bI_ne0, bI_ne1, bI_eq1, bI_01, eq_self, true_or, or_true, and_true, true_and, false_and, and_false, false_or, or_false, ite_true, ite_false, if_true, if_false, not_true, not_false_iff, Classical.not_not, nem, ite_not, ne_eq]) (by simp (decide := true) (disch := (first | assumption | (simp only [Sh_setI, Sm_setI, Sh_setL, Sm_setL]; assumption) | omega)) only [mm, bI_True, bI_False, p_max, p_min, p_abs, Option.bind_some, Option.bind_none, Option.toList_some, Option.toList_none, List.cons_append, List.nil_append, bI_eq0, bI_ne0, bI_ne1, bI_eq1, bI_01, eq_self, true_or, or_true, and_true, true_and, false_and, and_false, false_or, or_false, ite_true, ite_false, if_true, if_false, not_true, not_false_iff, Classical.not_not, nem, ite_not, ne_eq]) (fun k hk => by simp (decide := true) (disch := (first | assumption | (simp only [Sh_setI, Sm_setI, Sh_setL, Sm_setL]; assumption) | omega)) only [mm, bI_True, bI_False, p_max, p_min, p_abs, Option.bind_some, Option.bind_none, Option.toList_some, Option.toList_none, List.cons_append, List.nil_append, bI_eq0, bI_ne0, bI_ne1, bI_eq1, bI_01, eq_self, true_or, or_true, and_true, true_and, false_and, and_false, false_or, or_false, ite_true, ite_false, if_true, if_false, not_true, not_false_iff, Classical.not_not, nem, ite_not, ne_eq]) i6), (Kd.c K (by decide) C.2.2.2.1 (by simp (decide := true) (disch := (first | assumption | (simp only [Sh_setI, Sm_setI, Sh_setL, Sm_setL]; assumption) | omega)) only [hI_ne, hI_eq, mm, st, bI_True, bI_False, p_max, p_min, p_abs, Option.bind_some, Option.bind_none, Option.toList_some, Option.toList_none, List.cons_append, List.nil_append, bI_eq0, bI_ne0, bI_ne1, bI_eq1, bI_01, eq_self, true_or, or_true, and_true, true_and, false_and, and_false, false_or, or_false, ite_true, ite_false, if_true, if_false, not_true, not_false_iff, Classical.not_not, nem, ite_not, ne_eq]) (by simp (decide := true) (disch := (first | assumption | (simp only [Sh_setI, Sm_setI, Sh_setL, Sm_setL]; assumption) | omega)) only [hI_ne, hI_eq, mm, st, bI_True, bI_False, p_max, p_min, p_abs, Option.bind_some, Option.bind_none, Option.toList_some, Option.toList_none, List.cons_append, List.nil_append, bI_eq0, bI_ne0, bI_ne1, bI_eq1, bI_01, eq_self, true_or, or_true, and_true, true_and, false_and, and_false, false_or, or_false, ite_true, ite_false, if_true, if_false, not_true, not_false_iff, Classical.not_not, nem, ite_not, ne_eq]) (fun n q1 q2 => by simp (decide := true) (disch := (first | assumption | (simp only [Sh_setI, Sm_setI, Sh_setL, Sm_setL]; assumption) | omega)) only [hI_ne, mm, st, bI_True, bI_False, p_max, p_min, p_abs, Option.bind_some, Option.bind_none, Option.toList_some, Option.toList_none, List.cons_append, List.nil_append, bI_eq0, bI_ne0, bI_ne1, bI_eq1, bI_01, eq_self, true_or, or_true, and_true, true_and, false_and, and_false, false_or, or_false, ite_true, ite_false, if_true, if_false, not_true, not_false_iff, Classical.not_not, nem, ite_not, ne_eq])), ⟨(by simp (decide := true) (disch := (first | assumption | (simp only [Sh_setI, Sm_setI, Sh_setL, Sm_setL]; assumption) | omega)) only [yB, hI_ne, hI_eq, mm, st, bI_True, bI_False, p_max, p_min, p_abs, Option.bind_some, Option.bind_none, Option.toList_some, Option.toList_none, List.cons_append, List.nil_append, bI_eq0, bI_ne0, bI_ne1, bI_eq1, bI_01, eq_self, true_or, or_true, and_true, true_and, false_and, and_false, false_or, or_false, ite_true, ite_false, if_true, if_false, not_true, not_false_iff, Classical.not_not, nem, ite_not, ne_eq]; exact C.2.2.2.2.1.1), (by simp (decide := true) (disch := (first | assumption | (simp only [Sh_setI, Sm_setI, Sh_setL, Sm_setL]; assumption) | omega)) only [hI_ne, hI_eq, mm, st, bI_True, bI_False, p_max, p_min, p_abs, Option.bind_some, Option.bind_none, Option.toList_some, Option.toList_none, List.cons_append, List.nil_append, bI_eq0, bI_ne0, bI_ne1, bI_eq1, bI_01, eq_self, true_or, or_true, and_true, true_and, false_and, and_false, false_or, or_false, ite_true, ite_false, if_true, if_false, not_true, not_false_iff, Classical.not_not, nem, ite_not, ne_eq]; exact C.2.2.2.2.1.2.1), (by simp (decide := true) (disch := (first | assumption | (simp only [Sh_setI, Sm_setI, Sh_setL, Sm_setL]; assumption) | omega)) only [hI_ne, hI_eq, mm, st, bI_True, bI_False, p_max, p_min, p_abs, Option.bind_some, Option.bind_none, Option.toList_some, Option.toList_none, List.cons_append, List.nil_append, bI_eq0, bI_ne0, bI_ne1, bI_eq1, bI_01, eq_self, true_or, or_true, and_true, true_and, false_and, and_false, false_or, or_false, ite_true, ite_false, if_true, if_false, not_true, not_false_iff, Classical.not_not, nem, ite_not, ne_eq]; exact C.2.2.2.2.1.2.2.1), Kd.t K (by decide) C.2.2.2.2.1.2.2.2 (by simp (decide := true) (disch := (first | assumption | (simp only [Sh_setI, Sm_setI, Sh_setL, Sm_setL]; assumption) | omega)) only [hI_ne, hI_eq, mm, st, bI_True, bI_False, p_max, p_min, p_abs, Option.bind_some, Option.bind_none, Option.toList_some, Option.toList_none, List.cons_append, List.nil_append, bI_eq0, bI_ne0, bI_ne1, bI_eq1, bI_01, eq_self, true_or, or_true, and_true, true_and, false_and, and_false, false_or, or_false, ite_true, ite_false, if_true, if_false, not_true, not_false_iff, Classical.not_not, nem, ite_not, ne_eq]) (by simp (decide := true) (disch := (first | assumption | (simp only [Sh_setI, Sm_setI, Sh_setL, Sm_setL]; assumption) | omega)) only [hI_ne, hI_eq, mm, st, bI_True, bI_False, p_max, p_min, p_abs, Option.bind_some, Option.bind_none, Option.toList_some, Option.toList_none, List.cons_append, List.nil_append, bI_eq0, bI_ne0, bI_ne1, bI_eq1, bI_01, eq_self, true_or, or_true, and_true, true_and, false_and, and_false, false_or, or_false, ite_true, ite_false, if_true, if_false, not_true, not_false_iff, Classical.not_not, nem, ite_not, ne_eq]) (by simp (decide := true) (disch := (first | assumption | (simp only [Sh_setI, Sm_setI, Sh_setL, Sm_setL]; assumption) | omega)) only [hI_ne, hI_eq, mm, st, bI_True, bI_False, p_max, p_min, p_abs, Option.bind_some, Option.bind_none, Option.toList_some, Option.toList_none, List.cons_append, List.nil_append, bI_eq0, bI_ne0, bI_ne1, bI_eq1, bI_01, eq_self, true_or, or_true, and_true, true_and, false_and, and_false, false_or, or_false, ite_true, ite_false, if_true, if_false, not_true, not_false_iff, Classical.not_not, nem, ite_not, ne_eq])⟩, (by simp (decide := true) (disch := (first | assumption | (simp only [Sh_setI, Sm_setI, Sh_setL, Sm_setL]; assumption) | omega)) only [CrI, hI_ne, hI_eq, mm, st, bI_True, bI_False, p_max, p_min, p_abs, Option.bind_some, Option.bind_none, Option.toList_some, Option.toList_none, List.cons_append, List.nil_append, bI_eq0, bI_ne0, bI_ne1, bI_eq1, bI_01, eq_self, true_or, or_true, and_true, true_and, false_and, and_false, false_or, or_false, ite_true, ite_false, if_true, if_false, not_true, not_false_iff, Classical.not_not, nem, ite_not, ne_eq]; exact C.2.2.2.2.2.1), (fun s hs => by simp (decide := true) (disch := (first | assumption | (simp only [Sh_setI, Sm_setI, Sh_setL, Sm_setL]; assumption) | omega)) only [hI_ne, hI_eq, mm, st, bI_True, bI_False, p_max, p_min, p_abs, Option.bind_some, Option.bind_none, Option.toList_some, Option.toList_none, List.cons_append, List.nil_append, bI_eq0, bI_ne0, bI_ne1, bI_eq1, bI_01, eq_self, true_or, or_true, and_true, true_and, false_and, and_false, false_or, or_false, ite_true, ite_false, if_true, if_false, not_true, not_false_iff, Classical.not_not, nem, ite_not, ne_eq]; exact C.2.2.2.2.2.2.1 s hs), (by simp (decide := true) (disch := (first | assumption | (simp only [Sh_setI, Sm_setI, Sh_setL, Sm_setL]; assumption) | omega)) only [CrW, hI_ne, hI_eq, mm, st, bI_True, bI_False, p_max, p_min, p_abs, Option.bind_some, Option.bind_none, Option.toList_some, Option.toList_none, List.cons_append, List.nil_append, bI_eq0, bI_ne0, bI_ne1, bI_eq1, bI_01, eq_self, true_or, or_true, and_true, true_and, false_and, and_false, false_or, or_false, ite_true, ite_false, if_true, if_false, not_true, not_false_iff, Classical.not_not, nem, ite_not, ne_eq]; exact C.2.2.2.2.2.2.2)⟩, mm, m58⟩
  · simp (decide := true) (disch := (first | assumption | (simp only [Sh_setI, Sm_setI, Sh_setL, Sm_setL]; assumption) | omega)) only [mm, st, bI_True, bI_False, p_max, p_min, p_abs, Option.bind_some, Option.bind_none, Option.toList_some, Option.toList_none, List.cons_append, List.nil_append, bI_eq0, bI_ne0, bI_ne1, bI_eq1, bI_01, eq_self, true_or, or_true, and_true, true_and, false_and, and_false, false_or, or_false, ite_true, ite_false, if_true, if_false, not_true, not_false_iff, Classical.not_not, nem, ite_not, ne_eq]; exact C.1.1
  · simp (decide := true) (disch := (first | assumption | (simp only [Sh_setI, Sm_setI, Sh_setL, Sm_setL]; assumption) | omega)) only [mm, st, bI_True, bI_False, p_max, p_min, p_abs, Option.bind_some, Option.bind_none, Option.toList_some, Option.toList_none, List.cons_append, List.nil_append, bI_eq0, bI_ne0, bI_ne1, bI_eq1, bI_01, eq_self, true_or, or_true, and_true, true_and, false_and, and_false, false_or, or_false, ite_true, ite_false, if_true, if_false, not_true, not_false_iff, Classical.not_not, nem, ite_not, ne_eq]; exact C.1.2.1
  · obtain ⟨c1, c2, c3⟩ := C.1.2.2 k hk
    rw [x5, x6, m58, m58, mm 57 (by omega), st 3 (by omega)]
    refine ⟨c1, ?_, ?_⟩
    · by_cases z : k < n
      · rw [if_pos z, if_pos z]
      · rw [if_neg z, if_neg z, if_neg (by omega)]; exact c2
    · by_cases z : k < n
      · rw [if_pos z, if_neg (by omega), if_pos (by omega)]; congr 1; omega
      · rw [if_neg z, if_neg (by omega), if_neg (by omega)]; exact c3
theorem m_bkB {b : Nat} (hb : b ≤ 5) : ∀ j k h', k + j = b → Sm h' → hI h' 56 32 = nI b → ∃ h1, Ev (d + 6) 211 12 [vr (some 56), vi (nI k)] [] h' = Ev (d + 6) 211 54 [vr (some 56), vi (nI b)] [] h1 ∧ Fi (fun a => a = 58) h' h1 ∧ ∀ q, hI h1 58 q = if (k ≤ q ∧ q < b) ∨ (5 + k ≤ q ∧ q < 5 + b) then hI h' 76 q else hI h' 58 q := by
  intro j
  induction j with
  | zero =>
    intro k h' e T h32
    refine ⟨h', ?_, Fi.rf, fun q => by rw [if_neg (by omega)]⟩
    rw [show k = b by omega]
    simp (decide := true) (disch := (first | assumption | (simp only [Sh_setI, Sm_setI, Sh_setL, Sm_setL]; assumption) | omega)) only [B_211_12, h32, n_leT, bI_True, bI_False, p_max, p_min, p_abs, Option.bind_some, Option.bind_none, Option.toList_some, Option.toList_none, List.cons_append, List.nil_append, bI_eq0, bI_ne0, bI_ne1, bI_eq1, bI_01, eq_self, true_or, or_true, and_true, true_and, false_and, and_false, false_or, or_false, ite_true, ite_false, if_true, if_false, not_true, not_false_iff, Classical.not_not, nem, ite_not, ne_eq]
  | succ j ih =>
    intro k h' e T h32
    obtain ⟨h1, e1, F1, f⟩ := ih (k + 1) (setI (setI h' 58 k (hI h' 76 k)) 58 (5 + k) (hI h' 76 (5 + k))) (by omega) T.si.si (by rw [hI_ne (by omega), hI_ne (by omega)]; exact h32)
    refine ⟨h1, ?_, Fi.tr (Fi.si (Fi.si (P := fun a => a = 58) Fi.rf rfl) rfl) F1, fun q => ?_⟩
    · rw [B_211_12 T]
      simp (decide := true) (disch := (first | assumption | (simp only [Sh_setI, Sm_setI, Sh_setL, Sm_setL]; assumption) | omega)) only [h32, n_leF, B_211_20 T, n_ix, n_cl, n_Oadd, hI_ne, B_211_48, n_addO, bI_True, bI_False, p_max, p_min, p_abs, Option.bind_some, Option.bind_none, Option.toList_some, Option.toList_none, List.cons_append, List.nil_append, bI_eq0, bI_ne0, bI_ne1, bI_eq1, bI_01, eq_self, true_or, or_true, and_true, true_and, false_and, and_false, false_or, or_false, ite_true, ite_false, if_true, if_false, not_true, not_false_iff, Classical.not_not, nem, ite_not, ne_eq]
      exact e1
    · rw [f, hI_ne (by omega), hI_ne (by omega), hI_eq, hI_eq]
      by_cases w : q = k
      · rw [if_neg (by omega), if_neg (by omega), if_pos w, if_pos (by omega), w]
      · by_cases w2 : q = 5 + k
        · rw [if_neg (by omega), if_pos w2, if_pos (by omega), w2]
        · rw [if_neg w2, if_neg w]
          by_cases z : (k + 1 ≤ q ∧ q < b) ∨ (5 + (k + 1) ≤ q ∧ q < 5 + b)
          · rw [if_pos z, if_pos (by omega)]
          · rw [if_neg z, if_neg (by omega)]
theorem m_bkD {b : Nat} (hb : b ≤ 8) : ∀ j k h', k + j = b → Sm h' → hI h' 56 33 = nI b → ∃ h1, Ev (d + 6) 211 56 [vr (some 56), vi (nI k)] [] h' = Ev (d + 6) 211 82 [vr (some 56), vi (nI b)] [] h1 ∧ Fi (fun a => a = 60) h' h1 ∧ ∀ q, hI h1 60 q = if k ≤ q ∧ q < b then hI h' 77 q else hI h' 60 q := by
  intro j
  induction j with
  | zero =>
    intro k h' e T h32
    refine ⟨h', ?_, Fi.rf, fun q => by rw [if_neg (by omega)]⟩
    rw [show k = b by omega]
    simp (decide := true) (disch := (first | assumption | (simp only [Sh_setI, Sm_setI, Sh_setL, Sm_setL]; assumption) | omega)) only [B_211_56, h32, n_leT, bI_True, bI_False, p_max, p_min, p_abs, Option.bind_some, Option.bind_none, Option.toList_some, Option.toList_none, List.cons_append, List.nil_append, bI_eq0, bI_ne0, bI_ne1, bI_eq1, bI_01, eq_self, true_or, or_true, and_true, true_and, false_and, and_false, false_or, or_false, ite_true, ite_false, if_true, if_false, not_true, not_false_iff, Classical.not_not, nem, ite_not, ne_eq]
  | succ j ih =>
    intro k h' e T h32
    obtain ⟨h1, e1, F1, f⟩ := ih (k + 1) (setI h' 60 k (hI h' 77 k)) (by omega) T.si (by rw [hI_ne (by omega)]; exact h32)
    refine ⟨h1, ?_, Fi.tr (Fi.si (P := fun a => a = 60) Fi.rf rfl) F1, fun q => ?_⟩
    · rw [B_211_56 T]
      simp (decide := true) (disch := (first | assumption | (simp only [Sh_setI, Sm_setI, Sh_setL, Sm_setL]; assumption) | omega)) only [h32, n_leF, B_211_64 T, n_ix, n_cl, n_addO, bI_True, bI_False, p_max, p_min, p_abs, Option.bind_some, Option.bind_none, Option.toList_some, Option.toList_none, List.cons_append, List.nil_append, bI_eq0, bI_ne0, bI_ne1, bI_eq1, bI_01, eq_self, true_or, or_true, and_true, true_and, false_and, and_false, false_or, or_false, ite_true, ite_false, if_true, if_false, not_true, not_false_iff, Classical.not_not, nem, ite_not, ne_eq]
      exact e1
    · rw [f, hI_ne (by omega), hI_eq]
      by_cases w : q = k
      · rw [if_neg (by omega), if_pos w, if_pos (by omega), w]
      · rw [if_neg w]
        by_cases z : k + 1 ≤ q ∧ q < b
        · rw [if_pos z, if_pos (by omega)]
        · rw [if_neg z, if_neg (by omega)]
theorem m_bkC {b : Nat} (hb : b ≤ 40) : ∀ j k h', k + j = b → Sm h' → hI h' 56 35 = nI b → (∀ q, q < b → hI h' 81 q = 0 ∨ hI h' 81 q = 1) → ∃ h1, Ev (d + 6) 211 136 [vr (some 56), vi (nI k)] [] h' = Ev (d + 6) 211 162 [vr (some 56), vi (nI b)] [] h1 ∧ Fi (fun a => a = 72) h' h1 ∧ ∀ q, hI h1 72 q = if k ≤ q ∧ q < b then hI h' 81 q else hI h' 72 q := by
  intro j
  induction j with
  | zero =>
    intro k h' e T h32 hz
    refine ⟨h', ?_, Fi.rf, fun q => by rw [if_neg (by omega)]⟩
    rw [show k = b by omega]
    simp (decide := true) (disch := (first | assumption | (simp only [Sh_setI, Sm_setI, Sh_setL, Sm_setL]; assumption) | omega)) only [B_211_136, h32, n_leT, bI_True, bI_False, p_max, p_min, p_abs, Option.bind_some, Option.bind_none, Option.toList_some, Option.toList_none, List.cons_append, List.nil_append, bI_eq0, bI_ne0, bI_ne1, bI_eq1, bI_01, eq_self, true_or, or_true, and_true, true_and, false_and, and_false, false_or, or_false, ite_true, ite_false, if_true, if_false, not_true, not_false_iff, Classical.not_not, nem, ite_not, ne_eq]
  | succ j ih =>
    intro k h' e T h32 hz
    obtain ⟨h1, e1, F1, f⟩ := ih (k + 1) (setI h' 72 k (hI h' 81 k)) (by omega) T.si (by rw [hI_ne (by omega)]; exact h32) (fun q hq => by rw [hI_ne (by omega)]; exact hz q hq)
    have hzk := hz k (by omega)
    refine ⟨h1, ?_, Fi.tr (Fi.si (P := fun a => a = 72) Fi.rf rfl) F1, fun q => ?_⟩
    · rw [B_211_136 T]
      simp (decide := true) (disch := (first | assumption | (simp only [Sh_setI, Sm_setI, Sh_setL, Sm_setL]; assumption) | omega)) only [h32, n_leF, B_211_144 T, n_ix, n_cl, hzk, n_addO, bI_True, bI_False, p_max, p_min, p_abs, Option.bind_some, Option.bind_none, Option.toList_some, Option.toList_none, List.cons_append, List.nil_append, bI_eq0, bI_ne0, bI_ne1, bI_eq1, bI_01, eq_self, true_or, or_true, and_true, true_and, false_and, and_false, false_or, or_false, ite_true, ite_false, if_true, if_false, not_true, not_false_iff, Classical.not_not, nem, ite_not, ne_eq]
      exact e1
    · rw [f, hI_ne (by omega), hI_eq]
      by_cases w : q = k
      · rw [if_neg (by omega), if_pos w, if_pos (by omega), w]
      · rw [if_neg w]
        by_cases z : k + 1 ≤ q ∧ q < b
        · rw [if_pos z, if_pos (by omega)]
        · rw [if_neg z, if_neg (by omega)]
theorem m_bkS {b : Nat} (hb : b ≤ 6) : ∀ j k h', k + j = b → Sm h' → hI h' 56 34 = nI b → ∃ h1, Ev (d + 6) 211 84 [vr (some 56), vi (nI k)] [] h' = Ev (d + 6) 211 134 [vr (some 56), vi (nI b)] [] h1 ∧ Fi (fun a => a = 62 ∨ a = 63 ∨ a = 64) h' h1 ∧ (∀ q, hI h1 62 q = if k ≤ q ∧ q < b then hI h' 78 q else hI h' 62 q) ∧ (∀ q, hI h1 63 q = if k ≤ q ∧ q < b then hI h' 79 q else hI h' 63 q) ∧ ∀ q, hI h1 64 q = if k ≤ q ∧ q < b then hI h' 80 q else hI h' 64 q := by
  intro j
  induction j with
  | zero =>
    intro k h' e T h32
    refine ⟨h', ?_, Fi.rf, fun q => by rw [if_neg (by omega)], fun q => by rw [if_neg (by omega)], fun q => by rw [if_neg (by omega)]⟩
    rw [show k = b by omega]
    simp (decide := true) (disch := (first | assumption | (simp only [Sh_setI, Sm_setI, Sh_setL, Sm_setL]; assumption) | omega)) only [B_211_84, h32, n_leT, bI_True, bI_False, p_max, p_min, p_abs, Option.bind_some, Option.bind_none, Option.toList_some, Option.toList_none, List.cons_append, List.nil_append, bI_eq0, bI_ne0, bI_ne1, bI_eq1, bI_01, eq_self, true_or, or_true, and_true, true_and, false_and, and_false, false_or, or_false, ite_true, ite_false, if_true, if_false, not_true, not_false_iff, Classical.not_not, nem, ite_not, ne_eq]
  | succ j ih =>
    intro k h' e T h32
    obtain ⟨h1, e1, F1, f1, f2, f3⟩ := ih (k + 1) (setI (setI (setI h' 62 k (hI h' 78 k)) 63 k (hI h' 79 k)) 64 k (hI h' 80 k)) (by omega) T.si.si.si (by rw [hI_ne (by omega), hI_ne (by omega), hI_ne (by omega)]; exact h32)
    refine ⟨h1, ?_, Fi.tr (Fi.si (Fi.si (Fi.si (P := fun a => a = 62 ∨ a = 63 ∨ a = 64) Fi.rf (by omega)) (by omega)) (by omega)) F1, fun q => ?_, fun q => ?_, fun q => ?_⟩
    · rw [B_211_84 T]
      have T2 : Sm (setI (setI h' 62 k (hI h' 78 k)) 63 k (hI h' 79 k)) := T.si.si
      simp (decide := true) (disch := (first | assumption | (simp only [Sh_setI, Sm_setI, Sh_setL, Sm_setL]; assumption) | omega)) only [h32, n_leF, B_211_92 T, n_ix, n_cl, hI_ne, bI_True, bI_False, p_max, p_min, p_abs, Option.bind_some, Option.bind_none, Option.toList_some, Option.toList_none, List.cons_append, List.nil_append, bI_eq0, bI_ne0, bI_ne1, bI_eq1, bI_01, eq_self, true_or, or_true, and_true, true_and, false_and, and_false, false_or, or_false, ite_true, ite_false, if_true, if_false, not_true, not_false_iff, Classical.not_not, nem, ite_not, ne_eq]
      simp (decide := true) (disch := (first | assumption | (simp only [Sh_setI, Sm_setI, Sh_setL, Sm_setL]; assumption) | omega)) only [B_211_116 T2, n_ix, n_cl, hI_ne, n_addO, bI_True, bI_False, p_max, p_min, p_abs, Option.bind_some, Option.bind_none, Option.toList_some, Option.toList_none, List.cons_append, List.nil_append, bI_eq0, bI_ne0, bI_ne1, bI_eq1, bI_01, eq_self, true_or, or_true, and_true, true_and, false_and, and_false, false_or, or_false, ite_true, ite_false, if_true, if_false, not_true, not_false_iff, Classical.not_not, nem, ite_not, ne_eq]
      exact e1
    · rw [f1, hI_ne (show 78 ≠ 64 by omega), hI_ne (show 78 ≠ 63 by omega), hI_ne (show 78 ≠ 62 by omega), hI_ne (show 62 ≠ 64 by omega), hI_ne (show 62 ≠ 63 by omega), hI_eq]
      by_cases w : q = k
      · rw [if_neg (by omega), if_pos w, if_pos (by omega), w]
      · rw [if_neg w]
        by_cases z : k + 1 ≤ q ∧ q < b
        · rw [if_pos z, if_pos (by omega)]
        · rw [if_neg z, if_neg (by omega)]
    · rw [f2, hI_ne (show 79 ≠ 64 by omega), hI_ne (show 79 ≠ 63 by omega), hI_ne (show 79 ≠ 62 by omega), hI_ne (show 63 ≠ 64 by omega), hI_eq, hI_ne (show 63 ≠ 62 by omega)]
      by_cases w : q = k
      · rw [if_neg (by omega), if_pos w, if_pos (by omega), w]
      · rw [if_neg w]
        by_cases z : k + 1 ≤ q ∧ q < b
        · rw [if_pos z, if_pos (by omega)]
        · rw [if_neg z, if_neg (by omega)]
    · rw [f3, hI_ne (show 80 ≠ 64 by omega), hI_ne (show 80 ≠ 63 by omega), hI_ne (show 80 ≠ 62 by omega), hI_eq, hI_ne (show 64 ≠ 63 by omega), hI_ne (show 64 ≠ 62 by omega)]
      by_cases w : q = k
      · rw [if_neg (by omega), if_pos w, if_pos (by omega), w]
      · rw [if_neg w]
        by_cases z : k + 1 ≤ q ∧ q < b
        · rw [if_pos z, if_pos (by omega)]
        · rw [if_neg z, if_neg (by omega)]
end BACK2
