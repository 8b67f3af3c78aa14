/-! text: tokens of bytes, the class's leaves -/
def Bt (b : Nat → Nat) (sz : Nat) (h : am_H) : Prop := sz ≤ 160 ∧ hI h 11 1 = nI sz ∧ ∀ k, k < sz → b k < 256 ∧ hI h 12 k = nI (b k)
def Ls (h : am_H) : Prop := ∀ i j, i < 14 → j < am_sl.getD i 0 → hI h (1000001 + 2 * i) j = (am_sb.getD i []).getD j 0 ∧ hI h (1000000 + 2 * i) 1 = 0
theorem shr0 (x : Int32) : x >>> ((0 : Int32) &&& 31) = x := by
  have : (0 : Int32) &&& 31 = 0 := by decide
  rw [this]
  exact Int32.shiftRight_zero
set_option maxRecDepth 30000 in
theorem ch_c : ∀ c, c < 256 → (Int32.toUInt32 (nI c) % 65536).toInt32 = nI c := by decide
set_option maxRecDepth 30000 in
theorem ch_b : ∀ c, c < 128 → (Int32.toUInt32 ((nI c) &&& 255) % 65536).toInt32 = nI c := by decide
set_option maxRecDepth 30000 in
theorem ch_n : ∀ c, c < 128 → am_nar (am_rt 223) (nI c) = true ∧ am_nar (am_rt 221) (nI c) = true := by decide
def sgl : List Nat := [40, 41, 59, 43, 45, 42, 60, 61]
set_option maxRecDepth 30000 in
theorem ch_8 : ∀ k, k < 8 → ∀ c, c < 256 → (((am_sb.getD 13 []).getD k 0 = (Int32.toInt8 (nI c)).toInt32) ↔ sgl.getD k 0 = c) := by decide
set_option maxRecDepth 30000 in
theorem wd_b : ∀ i, i < 11 → am_sl.getD (i + 1) 0 = (wds.getD i []).length ∧ ∀ j, j < (wds.getD i []).length → (am_sb.getD (i + 1) []).getD j 0 = nI ((wds.getD i []).getD j 0) ∧ (wds.getD i []).getD j 0 < 128 := by decide
section LEXC
variable {d : Nat} {h : am_H}
theorem lit_env (S : Sh h) {i : Nat} (hi : i < 14) : hkd h (1000000 + 2 * i) = 902 ∧ hR h (1000000 + 2 * i) 0 = some (1000001 + 2 * i) ∧ hkd h (1000001 + 2 * i) = 903 ∧ hln h (1000001 + 2 * i) = am_sl.getD i 0 := by
  refine ⟨lit_kd2 S hi, ?_, lit_kd S hi, ?_⟩
  · rcases (by omega : i = 0 ∨ i = 1 ∨ i = 2 ∨ i = 3 ∨ i = 4 ∨ i = 5 ∨ i = 6 ∨ i = 7 ∨ i = 8 ∨ i = 9 ∨ i = 10 ∨ i = 11 ∨ i = 12 ∨ i = 13) with rfl | rfl | rfl | rfl | rfl | rfl | rfl | rfl | rfl | rfl | rfl | rfl | rfl | rfl <;> exact S.rf rfl rfl
  · rcases (by omega : i = 0 ∨ i = 1 ∨ i = 2 ∨ i = 3 ∨ i = 4 ∨ i = 5 ∨ i = 6 ∨ i = 7 ∨ i = 8 ∨ i = 9 ∨ i = 10 ∨ i = 11 ∨ i = 12 ∨ i = 13) with rfl | rfl | rfl | rfl | rfl | rfl | rfl | rfl | rfl | rfl | rfl | rfl | rfl | rfl <;> exact S.ln rfl rfl
theorem c_len (S : Sh h) (L : Ls h) {i : Nat} (hi : i < 14) (hp : 0 < am_sl.getD i 0) : Cl (d + 8) 219 [vr (some (1000000 + 2 * i))] h = some (some (vi (nI (am_sl.getD i 0))), h) := by
  obtain ⟨k1, r1, k2, l2⟩ := lit_env S hi
  have c0 := (L i 0 hi hp).2
  have nr : am_nar (am_rt 220) 0 = true := by decide
  simp (decide := true) (disch := (first | assumption | (simp only [Sh_setI, Sm_setI, Sh_setL, Sm_setL]; assumption) | omega)) only [E_219, B_219_0, B_219_9, E_220, B_220_0, B_220_6, B_220_13, B_220_14, k1, r1, k2, l2, c0, nr, shr0, bI_True, bI_False, p_max, p_min, p_abs, Option.bind_some, Option.bind_none, Option.toList_some, Option.toList_none, List.cons_append, List.nil_append, bI_eq0, bI_ne0, bI_ne1, bI_eq1, bI_01, eq_self, true_or, or_true, and_true, true_and, false_and, and_false, false_or, or_false, ite_true, ite_false, if_true, if_false, not_true, not_false_iff, Classical.not_not, nem, ite_not, ne_eq]
theorem c_charAt (S : Sh h) (L : Ls h) {i j c : Nat} (hi : i < 14) (hj : j < am_sl.getD i 0) (hl : am_sl.getD i 0 < 1000) (ec : (am_sb.getD i []).getD j 0 = nI c) (hc : c < 128) : Cl (d + 12) 221 [vr (some (1000000 + 2 * i)), vi (nI j)] h = some (some (vi (nI c)), h) := by
  obtain ⟨k1, r1, k2, l2⟩ := lit_env S hi
  obtain ⟨b1, c0⟩ := L i j hi hj
  obtain ⟨n1, n2⟩ := ch_n c hc
  have e8 := ch_b c hc
  rw [ec] at b1
  simp (decide := true) (disch := (first | assumption | (simp only [Sh_setI, Sm_setI, Sh_setL, Sm_setL]; assumption) | omega)) only [B_221_0, B_221_4, B_221_7, B_221_15, E_221, E_222, B_222_0, B_222_6, B_222_13, B_222_17, B_222_18, E_223, B_223_0, B_223_6, k1, r1, k2, l2, c0, p_ckx, n_Ole, Nat.zero_le, n_lt, hj, n_ix, n_cl, b1, e8, n1, n2, bI_True, bI_False, p_max, p_min, p_abs, Option.bind_some, Option.bind_none, Option.toList_some, Option.toList_none, List.cons_append, List.nil_append, bI_eq0, bI_ne0, bI_ne1, bI_eq1, bI_01, eq_self, true_or, or_true, and_true, true_and, false_and, and_false, false_or, or_false, ite_true, ite_false, if_true, if_false, not_true, not_false_iff, Classical.not_not, nem, ite_not, ne_eq]
theorem c_isLetter {c : Nat} (hc : c < 256) : Cl (d + 4) 13 [vi (nI c)] h = some (some (vi (bI (isLt c = true))), h) := by
  unfold isLt
  by_cases a : c < 97
  · simp (decide := true) (disch := (first | assumption | (simp only [Sh_setI, Sm_setI, Sh_setL, Sm_setL]; assumption) | omega)) only [E_13, B_13_0, B_13_6, B_13_12, B_13_16, B_13_17, n_ltO, a, decide_eq_true_eq, show ¬ (97 ≤ c ∧ c ≤ 122) by omega, bI_True, bI_False, p_max, p_min, p_abs, Option.bind_some, Option.bind_none, Option.toList_some, Option.toList_none, List.cons_append, List.nil_append, bI_eq0, bI_ne0, bI_ne1, bI_eq1, bI_01, eq_self, true_or, or_true, and_true, true_and, false_and, and_false, false_or, or_false, ite_true, ite_false, if_true, if_false, not_true, not_false_iff, Classical.not_not, nem, ite_not, ne_eq]
  · by_cases e : 122 < c
    · simp (decide := true) (disch := (first | assumption | (simp only [Sh_setI, Sm_setI, Sh_setL, Sm_setL]; assumption) | omega)) only [E_13, B_13_0, B_13_6, B_13_12, B_13_16, B_13_17, n_ltO, a, n_Olt, e, decide_eq_true_eq, show ¬ (97 ≤ c ∧ c ≤ 122) by omega, bI_True, bI_False, p_max, p_min, p_abs, Option.bind_some, Option.bind_none, Option.toList_some, Option.toList_none, List.cons_append, List.nil_append, bI_eq0, bI_ne0, bI_ne1, bI_eq1, bI_01, eq_self, true_or, or_true, and_true, true_and, false_and, and_false, false_or, or_false, ite_true, ite_false, if_true, if_false, not_true, not_false_iff, Classical.not_not, nem, ite_not, ne_eq]
    · simp (decide := true) (disch := (first | assumption | (simp only [Sh_setI, Sm_setI, Sh_setL, Sm_setL]; assumption) | omega)) only [E_13, B_13_0, B_13_6, B_13_12, B_13_16, B_13_17, n_ltO, a, n_Olt, e, decide_eq_true_eq, show (97 ≤ c ∧ c ≤ 122) by omega, bI_True, bI_False, p_max, p_min, p_abs, Option.bind_some, Option.bind_none, Option.toList_some, Option.toList_none, List.cons_append, List.nil_append, bI_eq0, bI_ne0, bI_ne1, bI_eq1, bI_01, eq_self, true_or, or_true, and_true, true_and, false_and, and_false, false_or, or_false, ite_true, ite_false, if_true, if_false, not_true, not_false_iff, Classical.not_not, nem, ite_not, ne_eq]
theorem c_isDigit {c : Nat} (hc : c < 256) : Cl (d + 4) 14 [vi (nI c)] h = some (some (vi (bI (isDg c = true))), h) := by
  unfold isDg
  by_cases a : c < 48
  · simp (decide := true) (disch := (first | assumption | (simp only [Sh_setI, Sm_setI, Sh_setL, Sm_setL]; assumption) | omega)) only [E_14, B_14_0, B_14_6, B_14_12, B_14_16, B_14_17, n_ltO, a, decide_eq_true_eq, show ¬ (48 ≤ c ∧ c ≤ 57) by omega, bI_True, bI_False, p_max, p_min, p_abs, Option.bind_some, Option.bind_none, Option.toList_some, Option.toList_none, List.cons_append, List.nil_append, bI_eq0, bI_ne0, bI_ne1, bI_eq1, bI_01, eq_self, true_or, or_true, and_true, true_and, false_and, and_false, false_or, or_false, ite_true, ite_false, if_true, if_false, not_true, not_false_iff, Classical.not_not, nem, ite_not, ne_eq]
  · by_cases e : 57 < c
    · simp (decide := true) (disch := (first | assumption | (simp only [Sh_setI, Sm_setI, Sh_setL, Sm_setL]; assumption) | omega)) only [E_14, B_14_0, B_14_6, B_14_12, B_14_16, B_14_17, n_ltO, a, n_Olt, e, decide_eq_true_eq, show ¬ (48 ≤ c ∧ c ≤ 57) by omega, bI_True, bI_False, p_max, p_min, p_abs, Option.bind_some, Option.bind_none, Option.toList_some, Option.toList_none, List.cons_append, List.nil_append, bI_eq0, bI_ne0, bI_ne1, bI_eq1, bI_01, eq_self, true_or, or_true, and_true, true_and, false_and, and_false, false_or, or_false, ite_true, ite_false, if_true, if_false, not_true, not_false_iff, Classical.not_not, nem, ite_not, ne_eq]
    · simp (decide := true) (disch := (first | assumption | (simp only [Sh_setI, Sm_setI, Sh_setL, Sm_setL]; assumption) | omega)) only [E_14, B_14_0, B_14_6, B_14_12, B_14_16, B_14_17, n_ltO, a, n_Olt, e, decide_eq_true_eq, show (48 ≤ c ∧ c ≤ 57) by omega, bI_True, bI_False, p_max, p_min, p_abs, Option.bind_some, Option.bind_none, Option.toList_some, Option.toList_none, List.cons_append, List.nil_append, bI_eq0, bI_ne0, bI_ne1, bI_eq1, bI_01, eq_self, true_or, or_true, and_true, true_and, false_and, and_false, false_or, or_false, ite_true, ite_false, if_true, if_false, not_true, not_false_iff, Classical.not_not, nem, ite_not, ne_eq]
theorem c_blanks (S : Sh h) {b : Nat → Nat} {sz : Nat} (H : Bt b sz h) {a1 : Int32} : ∀ j i, i + j = sz → Ev (d + 4) 11 2 [vr (some 11), vi a1, vi (nI i)] [] h = some (some (vi (nI (runB isBl b j i))), h) := by
  obtain ⟨h160, q1, q2⟩ := H
  intro j
  induction j with
  | zero =>
    intro i e
    rw [B_11_2 S, q1]
    simp (decide := true) (disch := (first | assumption | (simp only [Sh_setI, Sm_setI, Sh_setL, Sm_setL]; assumption) | omega)) only [n_le, show sz ≤ i by omega, B_11_38, runB, bI_True, bI_False, p_max, p_min, p_abs, Option.bind_some, Option.bind_none, Option.toList_some, Option.toList_none, List.cons_append, List.nil_append, bI_eq0, bI_ne0, bI_ne1, bI_eq1, bI_01, eq_self, true_or, or_true, and_true, true_and, false_and, and_false, false_or, or_false, ite_true, ite_false, if_true, if_false, not_true, not_false_iff, Classical.not_not, nem, ite_not, ne_eq]
  | succ j ih =>
    intro i e
    obtain ⟨b1, b2⟩ := q2 i (by omega)
    rw [B_11_2 S, q1, runB]
    by_cases c : b i = 32
    · have bl : isBl (b i) = true := by rw [c]; decide
      rw [if_pos bl]
      simp (decide := true) (disch := (first | assumption | (simp only [Sh_setI, Sm_setI, Sh_setL, Sm_setL]; assumption) | omega)) only [n_le, show ¬ sz ≤ i by omega, B_11_10 S, n_ix, n_cl, b2, n_eqO, c, B_11_32, n_addO, bI_True, bI_False, p_max, p_min, p_abs, Option.bind_some, Option.bind_none, Option.toList_some, Option.toList_none, List.cons_append, List.nil_append, bI_eq0, bI_ne0, bI_ne1, bI_eq1, bI_01, eq_self, true_or, or_true, and_true, true_and, false_and, and_false, false_or, or_false, ite_true, ite_false, if_true, if_false, not_true, not_false_iff, Classical.not_not, nem, ite_not, ne_eq]
      exact ih (i + 1) (by omega)
    · by_cases c2 : b i = 10
      · have bl : isBl (b i) = true := by rw [c2]; decide
        rw [if_pos bl]
        simp (decide := true) (disch := (first | assumption | (simp only [Sh_setI, Sm_setI, Sh_setL, Sm_setL]; assumption) | omega)) only [n_le, show ¬ sz ≤ i by omega, B_11_10 S, n_ix, n_cl, b2, n_eqO, c2, B_11_21 S, B_11_32, n_addO, bI_True, bI_False, p_max, p_min, p_abs, Option.bind_some, Option.bind_none, Option.toList_some, Option.toList_none, List.cons_append, List.nil_append, bI_eq0, bI_ne0, bI_ne1, bI_eq1, bI_01, eq_self, true_or, or_true, and_true, true_and, false_and, and_false, false_or, or_false, ite_true, ite_false, if_true, if_false, not_true, not_false_iff, Classical.not_not, nem, ite_not, ne_eq]
        exact ih (i + 1) (by omega)
      · have bl : ¬ isBl (b i) = true := by unfold isBl; simp [c, c2]
        rw [if_neg bl]
        simp (decide := true) (disch := (first | assumption | (simp only [Sh_setI, Sm_setI, Sh_setL, Sm_setL]; assumption) | omega)) only [n_le, show ¬ sz ≤ i by omega, B_11_10 S, n_ix, n_cl, b2, n_eqO, c, c2, B_11_21 S, B_11_38, bI_True, bI_False, p_max, p_min, p_abs, Option.bind_some, Option.bind_none, Option.toList_some, Option.toList_none, List.cons_append, List.nil_append, bI_eq0, bI_ne0, bI_ne1, bI_eq1, bI_01, eq_self, true_or, or_true, and_true, true_and, false_and, and_false, false_or, or_false, ite_true, ite_false, if_true, if_false, not_true, not_false_iff, Classical.not_not, nem, ite_not, ne_eq]
theorem c_pastBlanks (S : Sh h) {b : Nat → Nat} {sz : Nat} (H : Bt b sz h) {i : Nat} (hi : i ≤ sz) : Cl (d + 4) 11 [vr (some 11), vi (nI i)] h = some (some (vi (nI (skF b sz i))), h) := by
  rw [E_11, B_11_0]
  exact c_blanks S H (sz - i) i (by omega)
theorem c_pastToken (S : Sh h) {b : Nat → Nat} {sz : Nat} (H : Bt b sz h) {fr : Nat} (hf : fr < sz) : Cl (d + 8) 12 [vr (some 11), vi (nI fr)] h = some (some (vi (nI (endF b sz fr))), h) := by
  obtain ⟨h160, q1, q2⟩ := H
  obtain ⟨f1, f2⟩ := q2 fr hf
  have l1 := fun d => c_isLetter (d := d) (h := h) f1
  have g1 := fun d => c_isDigit (d := d) (h := h) f1
  have head : Cl (d + 8) 12 [vr (some 11), vi (nI fr)] h = Ev (d + 8) 12 4 [vr (some 11), vi (nI fr), vi (nI (fr + 1))] [] h := by
    simp (decide := true) (disch := (first | assumption | (simp only [Sh_setI, Sm_setI, Sh_setL, Sm_setL]; assumption) | omega)) only [E_12, B_12_0, n_addO, bI_True, bI_False, p_max, p_min, p_abs, Option.bind_some, Option.bind_none, Option.toList_some, Option.toList_none, List.cons_append, List.nil_append, bI_eq0, bI_ne0, bI_ne1, bI_eq1, bI_01, eq_self, true_or, or_true, and_true, true_and, false_and, and_false, false_or, or_false, ite_true, ite_false, if_true, if_false, not_true, not_false_iff, Classical.not_not, nem, ite_not, ne_eq]
  rw [head]
  unfold endF
  by_cases a : isLt (b fr) = true
  · rw [if_pos a]
    have nd : ¬ isDg (b fr) = true := by unfold isLt isDg at *; simp at a ⊢; omega
    have go : ∀ j i, i + j = sz → Ev (d + 8) 12 4 [vr (some 11), vi (nI fr), vi (nI i)] [] h = some (some (vi (nI (runB isLt b j i))), h) := by
      intro j
      induction j with
      | zero =>
        intro i e
        rw [B_12_4 S, q1]
        simp (decide := true) (disch := (first | assumption | (simp only [Sh_setI, Sm_setI, Sh_setL, Sm_setL]; assumption) | omega)) only [n_le, show sz ≤ i by omega, B_12_66, runB, bI_True, bI_False, p_max, p_min, p_abs, Option.bind_some, Option.bind_none, Option.toList_some, Option.toList_none, List.cons_append, List.nil_append, bI_eq0, bI_ne0, bI_ne1, bI_eq1, bI_01, eq_self, true_or, or_true, and_true, true_and, false_and, and_false, false_or, or_false, ite_true, ite_false, if_true, if_false, not_true, not_false_iff, Classical.not_not, nem, ite_not, ne_eq]
      | succ j ih =>
        intro i e
        obtain ⟨b1, b2⟩ := q2 i (by omega)
        have l2 := fun d => c_isLetter (d := d) (h := h) b1
        rw [B_12_4 S, q1, runB]
        by_cases c : isLt (b i) = true
        · rw [if_pos c]
          simp (decide := true) (disch := (first | assumption | (simp only [Sh_setI, Sm_setI, Sh_setL, Sm_setL]; assumption) | omega)) only [n_le, show ¬ sz ≤ i by omega, B_12_12 S, n_ix, n_cl, f2, l1, a, B_12_21, B_12_24 S, b2, l2, c, B_12_33, B_12_60, n_addO, bI_True, bI_False, p_max, p_min, p_abs, Option.bind_some, Option.bind_none, Option.toList_some, Option.toList_none, List.cons_append, List.nil_append, bI_eq0, bI_ne0, bI_ne1, bI_eq1, bI_01, eq_self, true_or, or_true, and_true, true_and, false_and, and_false, false_or, or_false, ite_true, ite_false, if_true, if_false, not_true, not_false_iff, Classical.not_not, nem, ite_not, ne_eq]
          exact ih (i + 1) (by omega)
        · rw [if_neg c]
          simp (decide := true) (disch := (first | assumption | (simp only [Sh_setI, Sm_setI, Sh_setL, Sm_setL]; assumption) | omega)) only [n_le, show ¬ sz ≤ i by omega, B_12_12 S, n_ix, n_cl, f2, l1, a, B_12_21, B_12_24 S, b2, l2, c, B_12_33, B_12_36 S, g1, nd, B_12_45, B_12_66, bI_True, bI_False, p_max, p_min, p_abs, Option.bind_some, Option.bind_none, Option.toList_some, Option.toList_none, List.cons_append, List.nil_append, bI_eq0, bI_ne0, bI_ne1, bI_eq1, bI_01, eq_self, true_or, or_true, and_true, true_and, false_and, and_false, false_or, or_false, ite_true, ite_false, if_true, if_false, not_true, not_false_iff, Classical.not_not, nem, ite_not, ne_eq]
    exact go _ _ (by omega)
  · rw [if_neg a]
    by_cases g : isDg (b fr) = true
    · rw [if_pos g]
      have go : ∀ j i, i + j = sz → Ev (d + 8) 12 4 [vr (some 11), vi (nI fr), vi (nI i)] [] h = some (some (vi (nI (runB isDg b j i))), h) := by
        intro j
        induction j with
        | zero =>
          intro i e
          rw [B_12_4 S, q1]
          simp (decide := true) (disch := (first | assumption | (simp only [Sh_setI, Sm_setI, Sh_setL, Sm_setL]; assumption) | omega)) only [n_le, show sz ≤ i by omega, B_12_66, runB, bI_True, bI_False, p_max, p_min, p_abs, Option.bind_some, Option.bind_none, Option.toList_some, Option.toList_none, List.cons_append, List.nil_append, bI_eq0, bI_ne0, bI_ne1, bI_eq1, bI_01, eq_self, true_or, or_true, and_true, true_and, false_and, and_false, false_or, or_false, ite_true, ite_false, if_true, if_false, not_true, not_false_iff, Classical.not_not, nem, ite_not, ne_eq]
        | succ j ih =>
          intro i e
          obtain ⟨b1, b2⟩ := q2 i (by omega)
          have g2 := fun d => c_isDigit (d := d) (h := h) b1
          rw [B_12_4 S, q1, runB]
          by_cases c : isDg (b i) = true
          · rw [if_pos c]
            simp (decide := true) (disch := (first | assumption | (simp only [Sh_setI, Sm_setI, Sh_setL, Sm_setL]; assumption) | omega)) only [n_le, show ¬ sz ≤ i by omega, B_12_12 S, n_ix, n_cl, f2, l1, a, B_12_21, B_12_36 S, g1, g, B_12_45, B_12_48 S, b2, g2, c, B_12_57, B_12_60, n_addO, bI_True, bI_False, p_max, p_min, p_abs, Option.bind_some, Option.bind_none, Option.toList_some, Option.toList_none, List.cons_append, List.nil_append, bI_eq0, bI_ne0, bI_ne1, bI_eq1, bI_01, eq_self, true_or, or_true, and_true, true_and, false_and, and_false, false_or, or_false, ite_true, ite_false, if_true, if_false, not_true, not_false_iff, Classical.not_not, nem, ite_not, ne_eq]
            exact ih (i + 1) (by omega)
          · rw [if_neg c]
            simp (decide := true) (disch := (first | assumption | (simp only [Sh_setI, Sm_setI, Sh_setL, Sm_setL]; assumption) | omega)) only [n_le, show ¬ sz ≤ i by omega, B_12_12 S, n_ix, n_cl, f2, l1, a, B_12_21, B_12_36 S, g1, g, B_12_45, B_12_48 S, b2, g2, c, B_12_57, B_12_66, bI_True, bI_False, p_max, p_min, p_abs, Option.bind_some, Option.bind_none, Option.toList_some, Option.toList_none, List.cons_append, List.nil_append, bI_eq0, bI_ne0, bI_ne1, bI_eq1, bI_01, eq_self, true_or, or_true, and_true, true_and, false_and, and_false, false_or, or_false, ite_true, ite_false, if_true, if_false, not_true, not_false_iff, Classical.not_not, nem, ite_not, ne_eq]
      exact go _ _ (by omega)
    · rw [if_neg g, B_12_4 S, q1]
      by_cases e : sz ≤ fr + 1
      · simp (decide := true) (disch := (first | assumption | (simp only [Sh_setI, Sm_setI, Sh_setL, Sm_setL]; assumption) | omega)) only [n_le, e, B_12_66, bI_True, bI_False, p_max, p_min, p_abs, Option.bind_some, Option.bind_none, Option.toList_some, Option.toList_none, List.cons_append, List.nil_append, bI_eq0, bI_ne0, bI_ne1, bI_eq1, bI_01, eq_self, true_or, or_true, and_true, true_and, false_and, and_false, false_or, or_false, ite_true, ite_false, if_true, if_false, not_true, not_false_iff, Classical.not_not, nem, ite_not, ne_eq]
      · simp (decide := true) (disch := (first | assumption | (simp only [Sh_setI, Sm_setI, Sh_setL, Sm_setL]; assumption) | omega)) only [n_le, e, B_12_12 S, n_ix, n_cl, f2, l1, a, B_12_21, B_12_36 S, g1, g, B_12_45, B_12_66, bI_True, bI_False, p_max, p_min, p_abs, Option.bind_some, Option.bind_none, Option.toList_some, Option.toList_none, List.cons_append, List.nil_append, bI_eq0, bI_ne0, bI_ne1, bI_eq1, bI_01, eq_self, true_or, or_true, and_true, true_and, false_and, and_false, false_or, or_false, ite_true, ite_false, if_true, if_false, not_true, not_false_iff, Classical.not_not, nem, ite_not, ne_eq]
theorem c_numberIn (S : Sh h) {b : Nat → Nat} {sz : Nat} (H : Bt b sz h) {a1 : Int32} {to : Nat} (ht : to ≤ sz) : ∀ j i a, i + j = to → (∀ k, i ≤ k → k < to → isDg (b k) = true) → Ev (d + 4) 15 5 [vr (some 11), vi a1, vi (nI to), vi (nI a), vi (nI i)] [] h = some (some (vi (nI (numF b j i a))), h) := by
  obtain ⟨h160, q1, q2⟩ := H
  intro j
  induction j with
  | zero =>
    intro i a e _
    rw [B_15_5]
    simp (decide := true) (disch := (first | assumption | (simp only [Sh_setI, Sm_setI, Sh_setL, Sm_setL]; assumption) | omega)) only [n_le, show to ≤ i by omega, B_15_33, numF, bI_True, bI_False, p_max, p_min, p_abs, Option.bind_some, Option.bind_none, Option.toList_some, Option.toList_none, List.cons_append, List.nil_append, bI_eq0, bI_ne0, bI_ne1, bI_eq1, bI_01, eq_self, true_or, or_true, and_true, true_and, false_and, and_false, false_or, or_false, ite_true, ite_false, if_true, if_false, not_true, not_false_iff, Classical.not_not, nem, ite_not, ne_eq]
  | succ j ih =>
    intro i a e hd
    obtain ⟨b1, b2⟩ := q2 i (by omega)
    have di := hd i (Nat.le_refl _) (by omega)
    have : 48 ≤ b i := by unfold isDg at di; simp at di; omega
    have e2 : (10 : Int32) * nI a + nI (b i) - 48 = nI (10 * a + (b i - 48)) := by
      rw [show (10 : Int32) * nI a = nI (10 * a) from pk_mul 10 a, n_add]
      show _ - nI 48 = _
      rw [n_sub (by omega)]
      congr 1
      omega
    rw [B_15_5, numF]
    simp (decide := true) (disch := (first | assumption | (simp only [Sh_setI, Sm_setI, Sh_setL, Sm_setL]; assumption) | omega)) only [n_le, show ¬ to ≤ i by omega, B_15_11 S, n_ix, n_cl, b2, e2, n_addO, bI_True, bI_False, p_max, p_min, p_abs, Option.bind_some, Option.bind_none, Option.toList_some, Option.toList_none, List.cons_append, List.nil_append, bI_eq0, bI_ne0, bI_ne1, bI_eq1, bI_01, eq_self, true_or, or_true, and_true, true_and, false_and, and_false, false_or, or_false, ite_true, ite_false, if_true, if_false, not_true, not_false_iff, Classical.not_not, nem, ite_not, ne_eq]
    exact ih (i + 1) _ (by omega) (fun k h1 h2 => hd k (by omega) h2)
theorem c_isThis (S : Sh h) (L : Ls h) {b : Nat → Nat} {sz : Nat} (H : Bt b sz h) {fr to : Nat} (hf : fr ≤ to) (ht : to ≤ sz) {i : Nat} (hi : i < 11) : Cl (d + 16) 19 [vr (some 11), vr (some (1000000 + 2 * (i + 1))), vi (nI fr), vi (nI to)] h = some (some (vi (bI (wsF b fr to = wds.getD i []))), h) := by
  obtain ⟨h160, q1, q2⟩ := H
  obtain ⟨wl, wb⟩ := wd_b i hi
  have wp : ∀ i, i < 11 → 0 < (wds.getD i []).length ∧ (wds.getD i []).length < 10 := by decide
  obtain ⟨wp1, wp2⟩ := wp i hi
  obtain ⟨k1, r1, k2, l2⟩ := lit_env S (show i + 1 < 14 by omega)
  have cl := fun d => c_len (d := d) S L (show i + 1 < 14 by omega) (by rw [wl]; exact wp1)
  have wsl : (wsF b fr to).length = to - fr := by unfold wsF; rw [List.length_map, List.length_range]
  by_cases len : (wds.getD i []).length = to - fr
  · have go : ∀ j k, k + j = to → fr ≤ k → (∀ q, fr ≤ q → q < k → b q = (wds.getD i []).getD (q - fr) 0) → Ev (d + 16) 19 15 [vr (some 11), vr (some (1000000 + 2 * (i + 1))), vi (nI fr), vi (nI to), vi (nI k)] [] h = some (some (vi (bI (wsF b fr to = wds.getD i []))), h) := by
      intro j
      induction j with
      | zero =>
        intro k e hk al
        have eq : wsF b fr to = wds.getD i [] := by
          apply List.ext_getElem?
          intro q
          by_cases hq : q < to - fr
          · unfold wsF
            rw [List.getElem?_map, List.getElem?_range hq]
            have := al (fr + q) (by omega) (by omega)
            rw [show fr + q - fr = q by omega, List.getD_eq_getElem?_getD, List.getElem?_eq_getElem (by omega)] at this
            rw [List.getElem?_eq_getElem (by omega)]
            simp only [Option.getD_some] at this
            show some (b (fr + q)) = _
            rw [this]
          · rw [List.getElem?_eq_none (by omega), List.getElem?_eq_none (by omega)]
        rw [B_19_15, bI_T eq]
        simp (decide := true) (disch := (first | assumption | (simp only [Sh_setI, Sm_setI, Sh_setL, Sm_setL]; assumption) | omega)) only [n_le, show to ≤ k by omega, B_19_47, bI_True, bI_False, p_max, p_min, p_abs, Option.bind_some, Option.bind_none, Option.toList_some, Option.toList_none, List.cons_append, List.nil_append, bI_eq0, bI_ne0, bI_ne1, bI_eq1, bI_01, eq_self, true_or, or_true, and_true, true_and, false_and, and_false, false_or, or_false, ite_true, ite_false, if_true, if_false, not_true, not_false_iff, Classical.not_not, nem, ite_not, ne_eq]
      | succ j ih =>
        intro k e hk al
        obtain ⟨b1, b2⟩ := q2 k (by omega)
        obtain ⟨w1, w2⟩ := wb (k - fr) (by omega)
        have ch := fun d => c_charAt (d := d) S L (show i + 1 < 14 by omega) (j := k - fr) (by rw [wl]; omega) (by rw [wl]; omega) w1 w2
        rw [B_19_15]
        by_cases c : (wds.getD i []).getD (k - fr) 0 = b k
        · simp (decide := true) (disch := (first | assumption | (simp only [Sh_setI, Sm_setI, Sh_setL, Sm_setL]; assumption) | omega)) only [n_le, show ¬ to ≤ k by omega, B_19_21, k1, n_sub, ch, B_19_29 S, n_ix, n_cl, b2, n_eq, c, B_19_41, n_addO, bI_True, bI_False, p_max, p_min, p_abs, Option.bind_some, Option.bind_none, Option.toList_some, Option.toList_none, List.cons_append, List.nil_append, bI_eq0, bI_ne0, bI_ne1, bI_eq1, bI_01, eq_self, true_or, or_true, and_true, true_and, false_and, and_false, false_or, or_false, ite_true, ite_false, if_true, if_false, not_true, not_false_iff, Classical.not_not, nem, ite_not, ne_eq]
          exact ih (k + 1) (by omega) (by omega) (fun q h1 h2 => by
            by_cases z : q = k
            · rw [z]; exact c.symm
            · exact al q h1 (by omega))
        · have ne : ¬ wsF b fr to = wds.getD i [] := fun w => by
            apply c
            rw [← w]
            unfold wsF
            rw [List.getD_eq_getElem?_getD, List.getElem?_map, List.getElem?_range (by omega)]
            show b (fr + (k - fr)) = b k
            rw [show fr + (k - fr) = k by omega]
          rw [bI_F ne]
          simp (decide := true) (disch := (first | assumption | (simp only [Sh_setI, Sm_setI, Sh_setL, Sm_setL]; assumption) | omega)) only [n_le, show ¬ to ≤ k by omega, B_19_21, k1, n_sub, ch, B_19_29 S, n_ix, n_cl, b2, n_eq, c, B_19_39, bI_True, bI_False, p_max, p_min, p_abs, Option.bind_some, Option.bind_none, Option.toList_some, Option.toList_none, List.cons_append, List.nil_append, bI_eq0, bI_ne0, bI_ne1, bI_eq1, bI_01, eq_self, true_or, or_true, and_true, true_and, false_and, and_false, false_or, or_false, ite_true, ite_false, if_true, if_false, not_true, not_false_iff, Classical.not_not, nem, ite_not, ne_eq]
    simp (decide := true) (disch := (first | assumption | (simp only [Sh_setI, Sm_setI, Sh_setL, Sm_setL]; assumption) | omega)) only [E_19, B_19_0, k1, cl, B_19_4, wl, n_sub, n_eq, len, B_19_12, bI_True, bI_False, p_max, p_min, p_abs, Option.bind_some, Option.bind_none, Option.toList_some, Option.toList_none, List.cons_append, List.nil_append, bI_eq0, bI_ne0, bI_ne1, bI_eq1, bI_01, eq_self, true_or, or_true, and_true, true_and, false_and, and_false, false_or, or_false, ite_true, ite_false, if_true, if_false, not_true, not_false_iff, Classical.not_not, nem, ite_not, ne_eq]
    exact go (to - fr) fr (by omega) (Nat.le_refl _) (fun q h1 h2 => absurd h1 (by omega))
  · have ne : ¬ wsF b fr to = wds.getD i [] := fun w => len (by rw [← w, wsl])
    rw [bI_F ne]
    simp (decide := true) (disch := (first | assumption | (simp only [Sh_setI, Sm_setI, Sh_setL, Sm_setL]; assumption) | omega)) only [E_19, B_19_0, k1, cl, B_19_4, wl, n_sub, n_eq, len, B_19_10, bI_True, bI_False, p_max, p_min, p_abs, Option.bind_some, Option.bind_none, Option.toList_some, Option.toList_none, List.cons_append, List.nil_append, bI_eq0, bI_ne0, bI_ne1, bI_eq1, bI_01, eq_self, true_or, or_true, and_true, true_and, false_and, and_false, false_or, or_false, ite_true, ite_false, if_true, if_false, not_true, not_false_iff, Classical.not_not, nem, ite_not, ne_eq]
theorem wix_at (ws : List Nat) : ∀ (i : Nat), i ≤ 11 → wix ws (wds.drop i) (128 + i) = if i = 11 then 2 else if ws = wds.getD i [] then 128 + i else wix ws (wds.drop (i + 1)) (128 + (i + 1)) := by
  intro i hi
  rcases (by omega : i = 0 ∨ i = 1 ∨ i = 2 ∨ i = 3 ∨ i = 4 ∨ i = 5 ∨ i = 6 ∨ i = 7 ∨ i = 8 ∨ i = 9 ∨ i = 10 ∨ i = 11) with rfl | rfl | rfl | rfl | rfl | rfl | rfl | rfl | rfl | rfl | rfl | rfl <;> rfl
theorem c_lettersOf {i : Nat} (hi : i < 11) : Cl (d + 4) 18 [vi (nI (128 + i))] h = some (some (vr (some (1000000 + 2 * (i + 1)))), h) := by
  rw [E_18, B_18_0]
  rcases (by omega : i = 0 ∨ i = 1 ∨ i = 2 ∨ i = 3 ∨ i = 4 ∨ i = 5 ∨ i = 6 ∨ i = 7 ∨ i = 8 ∨ i = 9 ∨ i = 10) with rfl | rfl | rfl | rfl | rfl | rfl | rfl | rfl | rfl | rfl | rfl
  · exact B_18_60
  · exact B_18_63
  · exact B_18_66
  · exact B_18_69
  · exact B_18_72
  · exact B_18_75
  · exact B_18_78
  · exact B_18_81
  · exact B_18_84
  · exact B_18_87
  · exact B_18_90
theorem c_wordIn (S : Sh h) (L : Ls h) {b : Nat → Nat} {sz : Nat} (H : Bt b sz h) {fr to : Nat} (hf : fr ≤ to) (ht : to ≤ sz) : ∀ j i, i + j = 11 → Ev (d + 20) 17 4 [vr (some 11), vi (nI fr), vi (nI to), vi (nI (128 + i))] [] h = some (some (vi (nI (wix (wsF b fr to) (wds.drop i) (128 + i)))), h) := by
  have k11 : hkd h 11 = 3 := S.kd (n := 11) (k := 3) rfl rfl
  intro j
  induction j with
  | zero =>
    intro i e
    rw [wix_at _ i (by omega), if_pos (by omega), B_17_4]
    simp (decide := true) (disch := (first | assumption | (simp only [Sh_setI, Sm_setI, Sh_setL, Sm_setL]; assumption) | omega)) only [n_Olt, show 138 < 128 + i by omega, B_17_32, bI_True, bI_False, p_max, p_min, p_abs, Option.bind_some, Option.bind_none, Option.toList_some, Option.toList_none, List.cons_append, List.nil_append, bI_eq0, bI_ne0, bI_ne1, bI_eq1, bI_01, eq_self, true_or, or_true, and_true, true_and, false_and, and_false, false_or, or_false, ite_true, ite_false, if_true, if_false, not_true, not_false_iff, Classical.not_not, nem, ite_not, ne_eq]
    rfl
  | succ j ih =>
    intro i e
    have cl := fun d => c_lettersOf (d := d) (h := h) (show i < 11 by omega)
    have ct := fun d => c_isThis (d := d) S L H hf ht (show i < 11 by omega)
    rw [wix_at _ i (by omega), if_neg (by omega), B_17_4]
    by_cases c : wsF b fr to = wds.getD i []
    · rw [if_pos c]
      simp (decide := true) (disch := (first | assumption | (simp only [Sh_setI, Sm_setI, Sh_setL, Sm_setL]; assumption) | omega)) only [n_Olt, show ¬ 138 < 128 + i by omega, B_17_11, cl, B_17_16, k11, ct, c, B_17_21, B_17_24, bI_True, bI_False, p_max, p_min, p_abs, Option.bind_some, Option.bind_none, Option.toList_some, Option.toList_none, List.cons_append, List.nil_append, bI_eq0, bI_ne0, bI_ne1, bI_eq1, bI_01, eq_self, true_or, or_true, and_true, true_and, false_and, and_false, false_or, or_false, ite_true, ite_false, if_true, if_false, not_true, not_false_iff, Classical.not_not, nem, ite_not, ne_eq]
    · rw [if_neg c]
      simp (decide := true) (disch := (first | assumption | (simp only [Sh_setI, Sm_setI, Sh_setL, Sm_setL]; assumption) | omega)) only [n_Olt, show ¬ 138 < 128 + i by omega, B_17_11, cl, B_17_16, k11, ct, c, B_17_21, B_17_26, n_addO, bI_True, bI_False, p_max, p_min, p_abs, Option.bind_some, Option.bind_none, Option.toList_some, Option.toList_none, List.cons_append, List.nil_append, bI_eq0, bI_ne0, bI_ne1, bI_eq1, bI_01, eq_self, true_or, or_true, and_true, true_and, false_and, and_false, false_or, or_false, ite_true, ite_false, if_true, if_false, not_true, not_false_iff, Classical.not_not, nem, ite_not, ne_eq]
      exact ih (i + 1) (by omega)
theorem c_signIx (S : Sh h) (L : Ls h) {c : Nat} (hc : c < 256) : ∃ x, (∀ d, Cl (d + 24) 224 [vr (some 1000026), vi (nI c)] h = some (some (vi x), h)) ∧ ((x < 0) ↔ ¬ ∃ q, q < 8 ∧ sgl.getD q 0 = c) := by
  obtain ⟨k1, r1, k2, l2⟩ := lit_env S (show 13 < 14 by omega)
  have c0 := (L 13 0 (by omega) (by decide)).2
  have bb := fun j hj => (L 13 j (by omega) hj).1
  have cl := fun d => c_len (d := d) S L (show 13 < 14 by omega) (by decide)
  have l13 : am_sl.getD 13 0 = 8 := by decide
  rw [l13] at l2
  rw [show 1000000 + 2 * 13 = 1000026 from rfl] at *
  rw [show 1000001 + 2 * 13 = 1000027 from rfl] at *
  have go : ∀ j k, k + j = 8 → ∃ x, (∀ d, Ev (d + 15) 228 7 [vr (some 1000027), vi (nI c), vi 0, vi (nI 8), vi ((Int32.toInt8 (nI c)).toInt32), vi (nI k)] [] h = some (some (vi x), h)) ∧ ((x < 0) ↔ ¬ ∃ q, k ≤ q ∧ q < 8 ∧ sgl.getD q 0 = c) := by
    intro j
    induction j with
    | zero =>
      intro k e
      refine ⟨-1, fun d => ?_, fun _ ⟨q, h1, h2, _⟩ => by omega, fun _ => by decide⟩
      rw [B_228_7]
      simp (decide := true) (disch := (first | assumption | (simp only [Sh_setI, Sm_setI, Sh_setL, Sm_setL]; assumption) | omega)) only [n_le, show 8 ≤ k by omega, B_228_31, bI_True, bI_False, p_max, p_min, p_abs, Option.bind_some, Option.bind_none, Option.toList_some, Option.toList_none, List.cons_append, List.nil_append, bI_eq0, bI_ne0, bI_ne1, bI_eq1, bI_01, eq_self, true_or, or_true, and_true, true_and, false_and, and_false, false_or, or_false, ite_true, ite_false, if_true, if_false, not_true, not_false_iff, Classical.not_not, nem, ite_not, ne_eq]
    | succ j ih =>
      intro k e
      have bk := bb k (by rw [l13]; omega)
      have c8 := ch_8 k (by omega) c hc
      by_cases w : sgl.getD k 0 = c
      · refine ⟨nI k, ?_, fun z => ?_, fun z => absurd ⟨k, Nat.le_refl _, by omega, w⟩ z⟩
        · intro d
          rw [B_228_7]
          simp (decide := true) (disch := (first | assumption | (simp only [Sh_setI, Sm_setI, Sh_setL, Sm_setL]; assumption) | omega)) only [n_le, show ¬ 8 ≤ k by omega, B_228_13, k2, l2, n_ix, n_cl, bk, c8.mpr w, B_228_22, bI_True, bI_False, p_max, p_min, p_abs, Option.bind_some, Option.bind_none, Option.toList_some, Option.toList_none, List.cons_append, List.nil_append, bI_eq0, bI_ne0, bI_ne1, bI_eq1, bI_01, eq_self, true_or, or_true, and_true, true_and, false_and, and_false, false_or, or_false, ite_true, ite_false, if_true, if_false, not_true, not_false_iff, Classical.not_not, nem, ite_not, ne_eq]
        · rw [n_ltO (by omega) (by decide)] at z
          exact absurd z (Nat.not_lt_zero _)
      · obtain ⟨x, e1, e2⟩ := ih (k + 1) (by omega)
        refine ⟨x, fun d => ?_, e2.trans (not_congr ⟨fun ⟨q, h1, h2, h3⟩ => ⟨q, by omega, h2, h3⟩, fun ⟨q, h1, h2, h3⟩ => ⟨q, by
          by_cases z : q = k
          · rw [z] at h3; exact absurd h3 w
          · omega, h2, h3⟩⟩)⟩
        have w' : ¬ (am_sb.getD 13 []).getD k 0 = (Int32.toInt8 (nI c)).toInt32 := fun z => w (c8.mp z)
        rw [B_228_7]
        simp (decide := true) (disch := (first | assumption | (simp only [Sh_setI, Sm_setI, Sh_setL, Sm_setL]; assumption) | omega)) only [n_le, show ¬ 8 ≤ k by omega, B_228_13, k2, l2, n_ix, n_cl, bk, w', B_228_25, n_addO, bI_True, bI_False, p_max, p_min, p_abs, Option.bind_some, Option.bind_none, Option.toList_some, Option.toList_none, List.cons_append, List.nil_append, bI_eq0, bI_ne0, bI_ne1, bI_eq1, bI_01, eq_self, true_or, or_true, and_true, true_and, false_and, and_false, false_or, or_false, ite_true, ite_false, if_true, if_false, not_true, not_false_iff, Classical.not_not, nem, ite_not, ne_eq]
        exact e1 _
  obtain ⟨x, e1, e2⟩ := go 8 0 rfl
  have e1' : ∀ d, Ev (d + 15) 228 7 [vr (some 1000027), vi (nI c), vi 0, vi (nI 8), vi ((Int32.toInt8 (nI c)).toInt32), vi 0] [] h = some (some (vi x), h) := e1
  refine ⟨x, fun d => ?_, e2.trans (not_congr ⟨fun ⟨q, h1, h2, h3⟩ => ⟨q, h2, h3⟩, fun ⟨q, h2, h3⟩ => ⟨q, Nat.zero_le _, h2, h3⟩⟩)⟩
  have cl' : ∀ d, Cl (d + 8) 219 [vr (some 1000026)] h = some (some (vi (nI 8)), h) := fun d => by rw [cl d, l13]
  simp (decide := true) (disch := (first | assumption | (simp only [Sh_setI, Sm_setI, Sh_setL, Sm_setL]; assumption) | omega)) only [E_224, B_224_0, B_224_6, k1, E_225, B_225_0, B_225_4, B_225_7, B_225_17, B_225_20, B_225_36, E_222, B_222_0, B_222_6, B_222_13, B_222_17, B_222_18, c0, cl', r1, E_226, B_226_0, B_226_4, B_226_9, B_226_14, B_226_21, B_226_29, B_226_36, E_227, B_227_0, B_227_4, B_227_11, B_227_16, n_ltO, Nat.not_lt_zero, n_Olt, show ¬ 255 < c by omega, k2, l2, n_le, n_lt, E_228, B_228_0, e1', bI_True, bI_False, p_max, p_min, p_abs, Option.bind_some, Option.bind_none, Option.toList_some, Option.toList_none, List.cons_append, List.nil_append, bI_eq0, bI_ne0, bI_ne1, bI_eq1, bI_01, eq_self, true_or, or_true, and_true, true_and, false_and, and_false, false_or, or_false, ite_true, ite_false, if_true, if_false, not_true, not_false_iff, Classical.not_not, nem, ite_not, ne_eq]
end LEXC
