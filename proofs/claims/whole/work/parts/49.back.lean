/-! back: the class's side -/
def Dy (h h' : am_H) : Prop := h'.1 = h.1 ∧ hkd h' = hkd h ∧ hln h' = hln h ∧ hR h' = hR h ∧ hL h' = hL h ∧ ∀ n, n ≤ 88 ∨ 900000 ≤ n → hI h' n = hI h n
theorem Dy.rf {h : am_H} : Dy h h := ⟨rfl, rfl, rfl, rfl, rfl, fun _ _ => rfl⟩
theorem Dy.si {h h' : am_H} (F : Dy h h') {n i : Nat} {v : Int32} (q : 88 < n) (q2 : n < 900000) : Dy h (setI h' n i v) := ⟨F.1, F.2.1, F.2.2.1, F.2.2.2.1, F.2.2.2.2.1, fun a q1 => by rw [hI_ne (by omega)]; exact F.2.2.2.2.2 a q1⟩
theorem Dy.tr {h h' h'' : am_H} (F : Dy h h') (G : Dy h' h'') : Dy h h'' := ⟨G.1.trans F.1, G.2.1.trans F.2.1, G.2.2.1.trans F.2.2.1, G.2.2.2.1.trans F.2.2.2.1, G.2.2.2.2.1.trans F.2.2.2.2.1, fun n q => (G.2.2.2.2.2 n q).trans (F.2.2.2.2.2 n q)⟩
theorem Dy.sh {h h' : am_H} (F : Dy h h') (S : Sh h) : Sh h' := ⟨by rw [hk, F.1]; exact S.1, fun n q => by rw [F.2.1, F.2.2.1]; exact S.2.1 n q, fun n f q => by rw [F.2.2.2.1]; exact S.2.2 n f q⟩
theorem Dy.sm {h h' : am_H} (F : Dy h h') (S : Sm h) : Sm h' := ⟨by rw [hk, F.1]; exact S.1, fun n q => by rw [F.2.1, F.2.2.1]; exact S.2.1 n q, fun n f q => by rw [F.2.2.2.1]; exact S.2.2 n f q⟩
section BACK
variable {d : Nat}
theorem c_bkD {b : Nat} : ∀ (j k : Nat) (h : am_H) (m : am_M), k + j = b → b ≤ yD m → Sh h → CR m h → m 56 4 = nI (yD m) → yD m ≤ 8 → yS m ≤ 6 → hI h 35 2 = nI b → hk h < 900000 → ∃ h1 m1, Ev (d + 6) 128 26 [vr (some 1), vi (nI k)] [] h = Ev (d + 6) 128 55 [vr (some 1), vi (nI b)] [] h1 ∧ Dy h h1 ∧ CR m1 h1 ∧ (∀ a, a ≠ 60 → m1 a = m a) ∧ ∀ q, m1 60 q = if k ≤ q ∧ q < b then hI h 39 q else m 60 q := by
  intro j
  induction j with
  | zero =>
    intro k h m e hb S C hD d8 s6 h35 hb9
    refine ⟨h, m, ?_, Dy.rf, C, fun _ _ => rfl, fun q => by rw [if_neg (by omega)]⟩
    rw [show k = b by omega]
    simp (decide := true) (disch := (first | assumption | (simp only [Sh_setI, Sm_setI, Sh_setL, Sm_setL]; assumption) | omega)) only [B_128_26, h35, n_leT, bI_True, bI_False, p_max, p_min, p_abs, Option.bind_some, Option.bind_none, Option.toList_some, Option.toList_none, List.cons_append, List.nil_append, bI_eq0, bI_ne0, bI_ne1, bI_eq1, bI_01, eq_self, true_or, or_true, and_true, true_and, false_and, and_false, false_or, or_false, ite_true, ite_false, if_true, if_false, not_true, not_false_iff, Classical.not_not, nem, ite_not, ne_eq]
  | succ j ih =>
    intro k h m e hb S C hD d8 s6 h35 hb9
    obtain ⟨n, n1, -⟩ := C.2.1.2 k (by omega)
    obtain ⟨n2, n3, n4, n5, C1⟩ := set_drum C d8 s6 (show k < yD m by omega) n1 (hI h 39 k)
    have eD : yD (upm m 60 k (hI h 39 k)) = yD m := by simp (decide := true) (disch := (first | assumption | (simp only [Sh_setI, Sm_setI, Sh_setL, Sm_setL]; assumption) | omega)) only [yD, upm_ne, bI_True, bI_False, p_max, p_min, p_abs, Option.bind_some, Option.bind_none, Option.toList_some, Option.toList_none, List.cons_append, List.nil_append, bI_eq0, bI_ne0, bI_ne1, bI_eq1, bI_01, eq_self, true_or, or_true, and_true, true_and, false_and, and_false, false_or, or_false, ite_true, ite_false, if_true, if_false, not_true, not_false_iff, Classical.not_not, nem, ite_not, ne_eq]
    have eS : yS (upm m 60 k (hI h 39 k)) = yS m := by simp (decide := true) (disch := (first | assumption | (simp only [Sh_setI, Sm_setI, Sh_setL, Sm_setL]; assumption) | omega)) only [yS, upm_ne, bI_True, bI_False, p_max, p_min, p_abs, Option.bind_some, Option.bind_none, Option.toList_some, Option.toList_none, List.cons_append, List.nil_append, bI_eq0, bI_ne0, bI_ne1, bI_eq1, bI_01, eq_self, true_or, or_true, and_true, true_and, false_and, and_false, false_or, or_false, ite_true, ite_false, if_true, if_false, not_true, not_false_iff, Classical.not_not, nem, ite_not, ne_eq]
    obtain ⟨h1, m1, e1, F1, C2, f1, f2⟩ := ih (k + 1) (setI h n 3 (hI h 39 k)) (upm m 60 k (hI h 39 k)) (by omega) (by rw [eD]; omega) S.si C1 (by rw [eD, upm_ne (by omega)]; exact hD) (by omega) (by omega) (by rw [hI_ne (by omega)]; exact h35) hb9
    refine ⟨h1, m1, ?_, Dy.tr (Dy.rf.si n3 (by omega)) F1, C2, fun a q => ?_, fun q => ?_⟩
    · rw [B_128_26 S]
      have e4 : hI h 1 4 = nI (yD m) := C.2.1.1.trans hD
      simp (decide := true) (disch := (first | assumption | (simp only [Sh_setI, Sm_setI, Sh_setL, Sm_setL]; assumption) | omega)) only [h35, n_leF, B_128_37, c_drumAt S e4 d8 (show k < yD m by omega), n1, B_128_46, S.kd (n := 35) (k := 5) rfl rfl, E_130, B_130_0, B_130_4 S, n2, n5, n_ix, n_cl, reduceCtorEq, B_130_17, B_128_49, n_addO, bI_True, bI_False, p_max, p_min, p_abs, Option.bind_some, Option.bind_none, Option.toList_some, Option.toList_none, List.cons_append, List.nil_append, bI_eq0, bI_ne0, bI_ne1, bI_eq1, bI_01, eq_self, true_or, or_true, and_true, true_and, false_and, and_false, false_or, or_false, ite_true, ite_false, if_true, if_false, not_true, not_false_iff, Classical.not_not, nem, ite_not, ne_eq]
      exact e1
    · rw [f1 a q, upm_ne q]
    · rw [f2, upm_eq, hI_ne (by omega)]
      by_cases w : q = k
      · rw [if_neg (by omega), if_pos w, if_pos (by omega), w]
      · rw [if_neg w]
        by_cases z : k + 1 ≤ q ∧ q < b
        · rw [if_pos z, if_pos (by omega)]
        · rw [if_neg z, if_neg (by omega)]
theorem c_bkS {b : Nat} : ∀ (j k : Nat) (h : am_H) (m : am_M), k + j = b → b ≤ yS m → Sh h → CR m h → m 56 8 = nI (yS m) → yD m ≤ 8 → yS m ≤ 6 → hI h 35 3 = nI b → hk h < 900000 → ∃ h1 m1, Ev (d + 6) 128 57 [vr (some 1), vi (nI k)] [] h = Ev (d + 6) 128 86 [vr (some 1), vi (nI b)] [] h1 ∧ Dy h h1 ∧ CR m1 h1 ∧ (∀ a, a ≠ 62 → a ≠ 63 → a ≠ 64 → m1 a = m a) ∧ (∀ q, m1 62 q = if k ≤ q ∧ q < b then hI h 40 q else m 62 q) ∧ (∀ q, m1 63 q = if k ≤ q ∧ q < b then hI h 41 q else m 63 q) ∧ ∀ q, m1 64 q = if k ≤ q ∧ q < b then hI h 42 q else m 64 q := by
  intro j
  induction j with
  | zero =>
    intro k h m e hb S C hD d8 s6 h35 hb9
    refine ⟨h, m, ?_, Dy.rf, C, fun _ _ _ _ => rfl, fun q => by rw [if_neg (by omega)], fun q => by rw [if_neg (by omega)], fun q => by rw [if_neg (by omega)]⟩
    rw [show k = b by omega]
    simp (decide := true) (disch := (first | assumption | (simp only [Sh_setI, Sm_setI, Sh_setL, Sm_setL]; assumption) | omega)) only [B_128_57, h35, n_leT, bI_True, bI_False, p_max, p_min, p_abs, Option.bind_some, Option.bind_none, Option.toList_some, Option.toList_none, List.cons_append, List.nil_append, bI_eq0, bI_ne0, bI_ne1, bI_eq1, bI_01, eq_self, true_or, or_true, and_true, true_and, false_and, and_false, false_or, or_false, ite_true, ite_false, if_true, if_false, not_true, not_false_iff, Classical.not_not, nem, ite_not, ne_eq]
  | succ j ih =>
    intro k h m e hb S C hD d8 s6 h35 hb9
    obtain ⟨n, n1, -⟩ := C.2.2.1.2 k (by omega)
    obtain ⟨n2, n3, n4, n5, C1⟩ := set_shake C d8 s6 (show k < yS m by omega) n1 (hI h 40 k) (hI h 41 k) (hI h 42 k)
    have eD : yD (upm (upm (upm m 62 k (hI h 40 k)) 63 k (hI h 41 k)) 64 k (hI h 42 k)) = yD m := by simp (decide := true) (disch := (first | assumption | (simp only [Sh_setI, Sm_setI, Sh_setL, Sm_setL]; assumption) | omega)) only [yD, upm_ne, bI_True, bI_False, p_max, p_min, p_abs, Option.bind_some, Option.bind_none, Option.toList_some, Option.toList_none, List.cons_append, List.nil_append, bI_eq0, bI_ne0, bI_ne1, bI_eq1, bI_01, eq_self, true_or, or_true, and_true, true_and, false_and, and_false, false_or, or_false, ite_true, ite_false, if_true, if_false, not_true, not_false_iff, Classical.not_not, nem, ite_not, ne_eq]
    have eS : yS (upm (upm (upm m 62 k (hI h 40 k)) 63 k (hI h 41 k)) 64 k (hI h 42 k)) = yS m := by simp (decide := true) (disch := (first | assumption | (simp only [Sh_setI, Sm_setI, Sh_setL, Sm_setL]; assumption) | omega)) only [yS, upm_ne, bI_True, bI_False, p_max, p_min, p_abs, Option.bind_some, Option.bind_none, Option.toList_some, Option.toList_none, List.cons_append, List.nil_append, bI_eq0, bI_ne0, bI_ne1, bI_eq1, bI_01, eq_self, true_or, or_true, and_true, true_and, false_and, and_false, false_or, or_false, ite_true, ite_false, if_true, if_false, not_true, not_false_iff, Classical.not_not, nem, ite_not, ne_eq]
    obtain ⟨h1, m1, e1, F1, C2, f1, f62, f63, f64⟩ := ih (k + 1) (setI (setI (setI h n 1 (hI h 40 k)) n 2 (hI h 41 k)) n 3 (hI h 42 k)) (upm (upm (upm m 62 k (hI h 40 k)) 63 k (hI h 41 k)) 64 k (hI h 42 k)) (by omega) (by rw [eS]; omega) S.si.si.si C1 (by rw [eS, upm_ne (by omega), upm_ne (by omega), upm_ne (by omega)]; exact hD) (by omega) (by omega) (by rw [hI_ne (by omega), hI_ne (by omega), hI_ne (by omega)]; exact h35) hb9
    refine ⟨h1, m1, ?_, Dy.tr (((Dy.rf.si n3 (by omega)).si n3 (by omega)).si n3 (by omega)) F1, C2, fun a q1 q2 q3 => ?_, fun q => ?_, fun q => ?_, fun q => ?_⟩
    · rw [B_128_57 S]
      have e4 : hI h 1 5 = nI (yS m) := C.2.2.1.1.trans hD
      have S3 : Sh (setI (setI h n 1 (hI h 40 k)) n 2 (hI h 41 k)) := S.si.si
      simp (decide := true) (disch := (first | assumption | (simp only [Sh_setI, Sm_setI, Sh_setL, Sm_setL]; assumption) | omega)) only [h35, n_leF, B_128_68, c_shakeAt S e4 s6 (show k < yS m by omega), n1, B_128_77, S.kd (n := 35) (k := 5) rfl rfl, E_131, B_131_0, B_131_4 S, n2, n5, n_ix, n_cl, reduceCtorEq, xkd_setI, hI_eq, hI_ne, bI_True, bI_False, p_max, p_min, p_abs, Option.bind_some, Option.bind_none, Option.toList_some, Option.toList_none, List.cons_append, List.nil_append, bI_eq0, bI_ne0, bI_ne1, bI_eq1, bI_01, eq_self, true_or, or_true, and_true, true_and, false_and, and_false, false_or, or_false, ite_true, ite_false, if_true, if_false, not_true, not_false_iff, Classical.not_not, nem, ite_not, ne_eq]
      simp (decide := true) (disch := (first | assumption | (simp only [Sh_setI, Sm_setI, Sh_setL, Sm_setL]; assumption) | omega)) only [B_131_30 S3, xkd_setI, n2, n5, n_ix, n_cl, hI_eq, hI_ne, B_131_43, B_128_80, n_addO, bI_True, bI_False, p_max, p_min, p_abs, Option.bind_some, Option.bind_none, Option.toList_some, Option.toList_none, List.cons_append, List.nil_append, bI_eq0, bI_ne0, bI_ne1, bI_eq1, bI_01, eq_self, true_or, or_true, and_true, true_and, false_and, and_false, false_or, or_false, ite_true, ite_false, if_true, if_false, not_true, not_false_iff, Classical.not_not, nem, ite_not, ne_eq]
      exact e1
    · rw [f1 a q1 q2 q3, upm_ne q3, upm_ne q2, upm_ne q1]
    · rw [f62, upm_ne (show 62 ≠ 64 by omega), upm_ne (show 62 ≠ 63 by omega), upm_eq, hI_ne (by omega), hI_ne (by omega), hI_ne (by omega)]
      by_cases w : q = k
      · rw [if_neg (by omega), if_pos w, if_pos (by omega), w]
      · rw [if_neg w]
        by_cases z : k + 1 ≤ q ∧ q < b
        · rw [if_pos z, if_pos (by omega)]
        · rw [if_neg z, if_neg (by omega)]
    · rw [f63, upm_ne (show 63 ≠ 64 by omega), upm_eq, upm_ne (show 63 ≠ 62 by omega), hI_ne (by omega), hI_ne (by omega), hI_ne (by omega)]
      by_cases w : q = k
      · rw [if_neg (by omega), if_pos w, if_pos (by omega), w]
      · rw [if_neg w]
        by_cases z : k + 1 ≤ q ∧ q < b
        · rw [if_pos z, if_pos (by omega)]
        · rw [if_neg z, if_neg (by omega)]
    · rw [f64, upm_eq, upm_ne (show 64 ≠ 63 by omega), upm_ne (show 64 ≠ 62 by omega), hI_ne (by omega), hI_ne (by omega), hI_ne (by omega)]
      by_cases w : q = k
      · rw [if_neg (by omega), if_pos w, if_pos (by omega), w]
      · rw [if_neg w]
        by_cases z : k + 1 ≤ q ∧ q < b
        · rw [if_pos z, if_pos (by omega)]
        · rw [if_neg z, if_neg (by omega)]
theorem c_bkC {b : Nat} : ∀ (j k : Nat) (h : am_H) (m : am_M), k + j = b → b ≤ yC m → Sh h → CR m h → m 56 12 = nI (yC m) → yD m ≤ 8 → yS m ≤ 6 → yC m ≤ 40 → hI h 35 4 = nI b → hk h < 900000 → (∀ q, q < b → hI h 43 q = 0 ∨ hI h 43 q = 1) → ∃ h1 m1, Ev (d + 6) 128 88 [vr (some 1), vi (nI k)] [] h = Ev (d + 6) 128 118 [vr (some 1), vi (nI b)] [] h1 ∧ Dy h h1 ∧ CR m1 h1 ∧ (∀ a, a ≠ 72 → m1 a = m a) ∧ ∀ q, m1 72 q = if k ≤ q ∧ q < b then hI h 43 q else m 72 q := by
  intro j
  induction j with
  | zero =>
    intro k h m e hb S C hD d8 s6 c4 h35 hb9 hz
    refine ⟨h, m, ?_, Dy.rf, C, fun _ _ => rfl, fun q => by rw [if_neg (by omega)]⟩
    rw [show k = b by omega]
    simp (decide := true) (disch := (first | assumption | (simp only [Sh_setI, Sm_setI, Sh_setL, Sm_setL]; assumption) | omega)) only [B_128_88, h35, n_leT, bI_True, bI_False, p_max, p_min, p_abs, Option.bind_some, Option.bind_none, Option.toList_some, Option.toList_none, List.cons_append, List.nil_append, bI_eq0, bI_ne0, bI_ne1, bI_eq1, bI_01, eq_self, true_or, or_true, and_true, true_and, false_and, and_false, false_or, or_false, ite_true, ite_false, if_true, if_false, not_true, not_false_iff, Classical.not_not, nem, ite_not, ne_eq]
  | succ j ih =>
    intro k h m e hb S C hD d8 s6 c4 h35 hb9 hz
    obtain ⟨n, n1, -⟩ := C.2.2.2.1.2.1 k (by omega)
    obtain ⟨n2, n3, n4, C1⟩ := set_card C d8 s6 (show k < yC m by omega) n1 (hI h 43 k)
    have eD : yD (upm m 72 k (hI h 43 k)) = yD m := by simp (decide := true) (disch := (first | assumption | (simp only [Sh_setI, Sm_setI, Sh_setL, Sm_setL]; assumption) | omega)) only [yD, upm_ne, bI_True, bI_False, p_max, p_min, p_abs, Option.bind_some, Option.bind_none, Option.toList_some, Option.toList_none, List.cons_append, List.nil_append, bI_eq0, bI_ne0, bI_ne1, bI_eq1, bI_01, eq_self, true_or, or_true, and_true, true_and, false_and, and_false, false_or, or_false, ite_true, ite_false, if_true, if_false, not_true, not_false_iff, Classical.not_not, nem, ite_not, ne_eq]
    have eS : yS (upm m 72 k (hI h 43 k)) = yS m := by simp (decide := true) (disch := (first | assumption | (simp only [Sh_setI, Sm_setI, Sh_setL, Sm_setL]; assumption) | omega)) only [yS, upm_ne, bI_True, bI_False, p_max, p_min, p_abs, Option.bind_some, Option.bind_none, Option.toList_some, Option.toList_none, List.cons_append, List.nil_append, bI_eq0, bI_ne0, bI_ne1, bI_eq1, bI_01, eq_self, true_or, or_true, and_true, true_and, false_and, and_false, false_or, or_false, ite_true, ite_false, if_true, if_false, not_true, not_false_iff, Classical.not_not, nem, ite_not, ne_eq]
    have eC : yC (upm m 72 k (hI h 43 k)) = yC m := by simp (decide := true) (disch := (first | assumption | (simp only [Sh_setI, Sm_setI, Sh_setL, Sm_setL]; assumption) | omega)) only [yC, upm_ne, bI_True, bI_False, p_max, p_min, p_abs, Option.bind_some, Option.bind_none, Option.toList_some, Option.toList_none, List.cons_append, List.nil_append, bI_eq0, bI_ne0, bI_ne1, bI_eq1, bI_01, eq_self, true_or, or_true, and_true, true_and, false_and, and_false, false_or, or_false, ite_true, ite_false, if_true, if_false, not_true, not_false_iff, Classical.not_not, nem, ite_not, ne_eq]
    have hzk := hz k (by omega)
    obtain ⟨h1, m1, e1, F1, C2, f1, f2⟩ := ih (k + 1) (setI h n 6 (hI h 43 k)) (upm m 72 k (hI h 43 k)) (by omega) (by rw [eC]; omega) S.si C1 (by rw [eC, upm_ne (by omega)]; exact hD) (by omega) (by omega) (by omega) (by rw [hI_ne (by omega)]; exact h35) hb9 (fun q hq => by rw [hI_ne (by omega)]; exact hz q hq)
    refine ⟨h1, m1, ?_, Dy.tr (Dy.rf.si n3 (by omega)) F1, C2, fun a q => ?_, fun q => ?_⟩
    · rw [B_128_88 S]
      have e4 : hI h 1 6 = nI (yC m) := C.2.2.2.1.1.trans hD
      simp (decide := true) (disch := (first | assumption | (simp only [Sh_setI, Sm_setI, Sh_setL, Sm_setL]; assumption) | omega)) only [h35, n_leF, B_128_99, c_cardAt S e4 c4 (show k < yC m by omega), n1, B_128_109, S.kd (n := 35) (k := 5) rfl rfl, E_132, B_132_0, B_132_4 S, n2, hzk, n_ix, n_cl, reduceCtorEq, B_132_14, B_128_112, n_addO, bI_True, bI_False, p_max, p_min, p_abs, Option.bind_some, Option.bind_none, Option.toList_some, Option.toList_none, List.cons_append, List.nil_append, bI_eq0, bI_ne0, bI_ne1, bI_eq1, bI_01, eq_self, true_or, or_true, and_true, true_and, false_and, and_false, false_or, or_false, ite_true, ite_false, if_true, if_false, not_true, not_false_iff, Classical.not_not, nem, ite_not, ne_eq]
      exact e1
    · rw [f1 a q, upm_ne q]
    · rw [f2, upm_eq, hI_ne (by omega)]
      by_cases w : q = k
      · rw [if_neg (by omega), if_pos w, if_pos (by omega), w]
      · rw [if_neg w]
        by_cases z : k + 1 ≤ q ∧ q < b
        · rw [if_pos z, if_pos (by omega)]
        · rw [if_neg z, if_neg (by omega)]
end BACK
