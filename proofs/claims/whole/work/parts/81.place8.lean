/-! place, settle -/
def clampH (x : Int32) : Int32 := if 0 ≤ x then (if x ≤ 9999999 then x else 9999999) else 0
theorem clamp_c {x : Int32} : (if 0 < (if x < 9999999 then x else 9999999) then (if x < 9999999 then x else 9999999) else 0) = clampH x := by
  unfold clampH
  have e0 : (0 : Int32).toInt = 0 := rfl
  have e9 : (9999999 : Int32).toInt = 9999999 := rfl
  by_cases a : x < 9999999
  · rw [if_pos a]
    have a' := a
    rw [Int32.lt_iff_toInt_lt, e9] at a'
    by_cases b : 0 < x
    · have b' := b
      rw [Int32.lt_iff_toInt_lt, e0] at b'
      rw [if_pos b, if_pos (by rw [Int32.le_iff_toInt_le, e0]; omega), if_pos (by rw [Int32.le_iff_toInt_le, e9]; omega)]
    · have b' := b
      rw [Int32.lt_iff_toInt_lt, e0] at b'
      rw [if_neg b]
      by_cases c : 0 ≤ x
      · rw [if_pos c, if_pos (by rw [Int32.le_iff_toInt_le, e9]; omega)]
        rw [Int32.le_iff_toInt_le, e0] at c
        apply Int32.toInt_inj.mp
        omega
      · rw [if_neg c]
  · rw [if_neg a]
    have a' := a
    rw [Int32.lt_iff_toInt_lt, e9] at a'
    rw [if_pos (by decide), if_pos (by rw [Int32.le_iff_toInt_le, e0]; omega)]
    by_cases c : x ≤ 9999999
    · rw [if_pos c]
      rw [Int32.le_iff_toInt_le, e9] at c
      apply Int32.toInt_inj.mp
      omega
    · rw [if_neg c]
theorem clamp_ok {x : Int32} : isN (clampH x) 9999999 := by
  unfold clampH
  by_cases a : 0 ≤ x
  · rw [if_pos a]
    by_cases b : x ≤ 9999999
    · rw [if_pos b]
      obtain ⟨k, -, hk, rfl⟩ := in_N x (a := 0) (b := 9999999) rfl rfl (by omega) (by omega) ⟨a, b⟩
      exact isN_of hk (by omega)
    · rw [if_neg b]
      exact isN_of (a := 9999999) (Nat.le_refl _) (by omega)
  · rw [if_neg a]
    exact isN_of (a := 0) (Nat.zero_le _) (by omega)
theorem inv_shake {m : am_M} (I : Inv m) {s : Nat} {a b c : Int32} (ha : isN a 359) (hb : isN b 99) (hc : isN c 9999999) : Inv (upm (upm (upm m 62 s a) 63 s b) 64 s c) := by
  refine ⟨(by simp (decide := true) (disch := (first | assumption | (simp only [Sh_setI, Sm_setI, Sh_setL, Sm_setL]; assumption) | omega)) only [InvB, yN, hI_ne, hI_eq, upm_ne, bI_True, bI_False, p_max, p_min, p_abs, Option.bind_some, Option.bind_none, Option.toList_some, Option.toList_none, List.cons_append, List.nil_append, bI_eq0, bI_ne0, bI_ne1, bI_eq1, bI_01, eq_self, true_or, or_true, and_true, true_and, false_and, and_false, false_or, or_false, ite_true, ite_false, if_true, if_false, not_true, not_false_iff, Classical.not_not, nem, ite_not, ne_eq]; exact I.1), (by simp (decide := true) (disch := (first | assumption | (simp only [Sh_setI, Sm_setI, Sh_setL, Sm_setL]; assumption) | omega)) only [InvD, yD, hI_ne, hI_eq, upm_ne, bI_True, bI_False, p_max, p_min, p_abs, Option.bind_some, Option.bind_none, Option.toList_some, Option.toList_none, List.cons_append, List.nil_append, bI_eq0, bI_ne0, bI_ne1, bI_eq1, bI_01, eq_self, true_or, or_true, and_true, true_and, false_and, and_false, false_or, or_false, ite_true, ite_false, if_true, if_false, not_true, not_false_iff, Classical.not_not, nem, ite_not, ne_eq]; exact I.2.1), ⟨?_, ?_⟩, (by simp (decide := true) (disch := (first | assumption | (simp only [Sh_setI, Sm_setI, Sh_setL, Sm_setL]; assumption) | omega)) only [InvC, yC, yD, yS, yDr, ySh, hI_ne, hI_eq, upm_ne, bI_True, bI_False, p_max, p_min, p_abs, Option.bind_some, Option.bind_none, Option.toList_some, Option.toList_none, List.cons_append, List.nil_append, bI_eq0, bI_ne0, bI_ne1, bI_eq1, bI_01, eq_self, true_or, or_true, and_true, true_and, false_and, and_false, false_or, or_false, ite_true, ite_false, if_true, if_false, not_true, not_false_iff, Classical.not_not, nem, ite_not, ne_eq]; exact I.2.2.2.1), (by simp (decide := true) (disch := (first | assumption | (simp only [Sh_setI, Sm_setI, Sh_setL, Sm_setL]; assumption) | omega)) only [InvT, yB, yT, hI_ne, hI_eq, upm_ne, bI_True, bI_False, p_max, p_min, p_abs, Option.bind_some, Option.bind_none, Option.toList_some, Option.toList_none, List.cons_append, List.nil_append, bI_eq0, bI_ne0, bI_ne1, bI_eq1, bI_01, eq_self, true_or, or_true, and_true, true_and, false_and, and_false, false_or, or_false, ite_true, ite_false, if_true, if_false, not_true, not_false_iff, Classical.not_not, nem, ite_not, ne_eq]; exact I.2.2.2.2.1), (by simp (decide := true) (disch := (first | assumption | (simp only [Sh_setI, Sm_setI, Sh_setL, Sm_setL]; assumption) | omega)) only [InvI, yN, yD, yS, yC, hI_ne, hI_eq, upm_ne, bI_True, bI_False, p_max, p_min, p_abs, Option.bind_some, Option.bind_none, Option.toList_some, Option.toList_none, List.cons_append, List.nil_append, bI_eq0, bI_ne0, bI_ne1, bI_eq1, bI_01, eq_self, true_or, or_true, and_true, true_and, false_and, and_false, false_or, or_false, ite_true, ite_false, if_true, if_false, not_true, not_false_iff, Classical.not_not, nem, ite_not, ne_eq]; exact I.2.2.2.2.2.1), (by simp (decide := true) (disch := (first | assumption | (simp only [Sh_setI, Sm_setI, Sh_setL, Sm_setL]; assumption) | omega)) only [InvH, hI_ne, hI_eq, upm_ne, bI_True, bI_False, p_max, p_min, p_abs, Option.bind_some, Option.bind_none, Option.toList_some, Option.toList_none, List.cons_append, List.nil_append, bI_eq0, bI_ne0, bI_ne1, bI_eq1, bI_01, eq_self, true_or, or_true, and_true, true_and, false_and, and_false, false_or, or_false, ite_true, ite_false, if_true, if_false, not_true, not_false_iff, Classical.not_not, nem, ite_not, ne_eq]; exact I.2.2.2.2.2.2)⟩
  · simp (decide := true) (disch := (first | assumption | (simp only [Sh_setI, Sm_setI, Sh_setL, Sm_setL]; assumption) | omega)) only [upm_ne, bI_True, bI_False, p_max, p_min, p_abs, Option.bind_some, Option.bind_none, Option.toList_some, Option.toList_none, List.cons_append, List.nil_append, bI_eq0, bI_ne0, bI_ne1, bI_eq1, bI_01, eq_self, true_or, or_true, and_true, true_and, false_and, and_false, false_or, or_false, ite_true, ite_false, if_true, if_false, not_true, not_false_iff, Classical.not_not, nem, ite_not, ne_eq]; exact I.2.2.1.1
  · intro k hk
    simp (decide := true) (disch := (first | assumption | (simp only [Sh_setI, Sm_setI, Sh_setL, Sm_setL]; assumption) | omega)) only [yS, upm_ne, bI_True, bI_False, p_max, p_min, p_abs, Option.bind_some, Option.bind_none, Option.toList_some, Option.toList_none, List.cons_append, List.nil_append, bI_eq0, bI_ne0, bI_ne1, bI_eq1, bI_01, eq_self, true_or, or_true, and_true, true_and, false_and, and_false, false_or, or_false, ite_true, ite_false, if_true, if_false, not_true, not_false_iff, Classical.not_not, nem, ite_not, ne_eq] at hk
    simp (decide := true) (disch := (first | assumption | (simp only [Sh_setI, Sm_setI, Sh_setL, Sm_setL]; assumption) | omega)) only [upm_ne, upm_eq, bI_True, bI_False, p_max, p_min, p_abs, Option.bind_some, Option.bind_none, Option.toList_some, Option.toList_none, List.cons_append, List.nil_append, bI_eq0, bI_ne0, bI_ne1, bI_eq1, bI_01, eq_self, true_or, or_true, and_true, true_and, false_and, and_false, false_or, or_false, ite_true, ite_false, if_true, if_false, not_true, not_false_iff, Classical.not_not, nem, ite_not, ne_eq]
    obtain ⟨i1, i2, i3⟩ := I.2.2.1.2 k hk
    by_cases w : k = s
    · simp (decide := true) (disch := (first | assumption | (simp only [Sh_setI, Sm_setI, Sh_setL, Sm_setL]; assumption) | omega)) only [w, bI_True, bI_False, p_max, p_min, p_abs, Option.bind_some, Option.bind_none, Option.toList_some, Option.toList_none, List.cons_append, List.nil_append, bI_eq0, bI_ne0, bI_ne1, bI_eq1, bI_01, eq_self, true_or, or_true, and_true, true_and, false_and, and_false, false_or, or_false, ite_true, ite_false, if_true, if_false, not_true, not_false_iff, Classical.not_not, nem, ite_not, ne_eq]; exact ⟨ha, hb, hc⟩
    · simp (decide := true) (disch := (first | assumption | (simp only [Sh_setI, Sm_setI, Sh_setL, Sm_setL]; assumption) | omega)) only [w, bI_True, bI_False, p_max, p_min, p_abs, Option.bind_some, Option.bind_none, Option.toList_some, Option.toList_none, List.cons_append, List.nil_append, bI_eq0, bI_ne0, bI_ne1, bI_eq1, bI_01, eq_self, true_or, or_true, and_true, true_and, false_and, and_false, false_or, or_false, ite_true, ite_false, if_true, if_false, not_true, not_false_iff, Classical.not_not, nem, ite_not, ne_eq]; exact ⟨i1, i2, i3⟩
section PLACE8
variable {d : Nat} {h : am_H}
theorem find_same {h1 : am_H} (T1 : Sm h1) (I1 : Inv (hI h1)) (ag : ∀ n, 56 ≤ n → n ≤ 88 → hI h1 n = hI h n) {s : Nat} {v : Int32} (hs6 : s < 6) {b : Option (Nat × Nat)} (Q : Best (okP (hI h) (LF (hI h) s v (yC (hI h)))) (offP (hI h) v (LF (hI h) s v (yC (hI h)))) (fun p' i' => p' < 360 ∧ i' < 5) b) : ∃ h2, Cl (d + 17) 193 [vr (some 56), vi (nI s), vi v] h1 = some (some (vi (bI (b ≠ none))), h2) ∧ Fq h1 h2 ∧ Bm (hI h) v (LF (hI h) s v (yC (hI h))) b h2 := by
  obtain ⟨h2, b2, e2, F2, B2, Q2⟩ := m_find (d := d) T1 I1 (v := v) hs6
  obtain ⟨y, lf, okc, slc, mdc, ofc⟩ := spec_cg (fun n q1 q2 => ag n (by omega) (by omega)) (fun f _ => by rw [ag 56 (by omega) (by omega)]) (s := s) (v := v)
  rw [y, lf] at B2 Q2
  generalize LF (hI h) s v (yC (hI h)) = L at *
  have e1 : okP (hI h1) L = okP (hI h) L := funext fun p => funext fun i => okc L p i
  have e3 : offP (hI h1) v L = offP (hI h) v L := funext fun p => funext fun i => ofc L p i
  rw [e1, e3] at Q2
  have eb := best_uniq Q2 Q
  subst eb
  refine ⟨h2, e2, F2, ?_⟩
  cases b2 with
  | none => exact B2
  | some x =>
    obtain ⟨b1, b2, b3, b4⟩ := B2
    exact ⟨b1.trans (by rw [ofc]), b2, b3, b4.trans (by rw [mdc])⟩
theorem off_lt (I : Inv (hI h)) {s : Nat} {v : Int32} {x : Nat × Nat} (Q : Best (okP (hI h) (LF (hI h) s v (yC (hI h)))) (offP (hI h) v (LF (hI h) s v (yC (hI h)))) (fun p' i' => p' < 360 ∧ i' < 5) (some x)) : x.1 < 360 ∧ x.2 < 5 ∧ offP (hI h) v (LF (hI h) s v (yC (hI h))) x.1 x.2 ≤ 416003920 := by
  have okx := Q.1
  obtain ⟨l1, l2⟩ := LF_le (m := hI h) (s := s) (v := v) (yC (hI h))
  have q3 : yC (hI h) ≤ 40 := I.2.2.2.1.1.2
  have ok2 := okx.2
  unfold okP at ok2
  rw [Bool.and_eq_true] at ok2
  have ln : (LF (hI h) s v (yC (hI h))).length ≠ 0 := fun w => by
    rw [List.eq_nil_of_length_eq_zero w] at ok2
    exact absurd ok2.1 (by decide)
  exact ⟨okx.1.1, okx.1.2, (off_sz I l2 (by omega) (by omega) okx.1.1 okx.1.2 ok2.2 (v := v)).2⟩
theorem s_place (R : Rel h) (hb : hk h < 900000) {x k w : Int32} : Stq (d + 22) 92 192 [vi x, vi k, vi w] h := by
  obtain ⟨S, T, I, C, L⟩ := id R
  have b1 : hI h 1 7 = hI h 56 0 := C.1.1
  have s1 : hI h 1 5 = hI h 56 8 := C.2.2.1.1
  have s2 : hI h 56 8 = nI (yS (hI h)) := I.2.2.1.1.1
  have s3 : yS (hI h) ≤ 6 := I.2.2.1.1.2
  rcases in_IxM x (yS (hI h)) s2 (by omega) with ⟨s, hs', rfl⟩ | hx
  · obtain ⟨sn, ss⟩ := C.2.2.1.2 s hs'
    have ec := fun d => c_shakeAt (d := d) S (s1.trans s2) s3 hs'
    have em := fun d h' (T' : Sm h') (e : hI h' 56 8 = nI (yS (hI h))) => m_isShakeT (d := d) (h := h') T' e hs' (by omega)
    by_cases hk : 0 ≤ k ∧ k ≤ hI h 56 0
    · rcases in_M w 3 (M := 3) rfl (by decide) with ⟨q, hq, rfl⟩ | hw
      · obtain ⟨h1, b, e1, F1, B1, Q1⟩ := c_find (d := d + 3) S I C (v := k) (show s < 6 by omega)
        have fin : ∀ (val : Int64), Ev (d + 22) 92 43 [vr (some 1), vi (nI s), vi k, vi (nI q), vr (some sn)] [vi (bI (b ≠ none))] h1 = some (some (vl val), h1) → (∀ h2, Sm h2 → Bm (hI h) k (LF (hI h) s k (yC (hI h))) b h2 → Ev (d + 22) 192 39 [vr (some 56), vi (nI s), vi k, vi (nI q)] [vi (bI (b ≠ none))] h2 = some (some (vl val), h2)) → Stq (d + 22) 92 192 [vi (nI s), vi k, vi (nI q)] h := by
          intro val ecl eml
          refine stp_pure (v := vl val) R hb ?_ F1.kp (fun R1 ag => ?_)
          · rw [E_92, B_92_0 S]
            simp (decide := true) (disch := (first | assumption | (simp only [Sh_setI, Sm_setI, Sh_setL, Sm_setL]; assumption) | omega)) only [ec, ss.1, B_92_5, B_92_16, B_92_21, B_92_24, B_92_30, B_92_37, reduceCtorEq, c_isDay S, b1, hk, c_isIn, n_Ole, n_leO, Nat.zero_le, hq, e1, bI_True, bI_False, p_max, p_min, p_abs, Option.bind_some, Option.bind_none, Option.toList_some, Option.toList_none, List.cons_append, List.nil_append, bI_eq0, bI_ne0, bI_ne1, bI_eq1, bI_01, eq_self, true_or, or_true, and_true, true_and, false_and, and_false, false_or, or_false, ite_true, ite_false, if_true, if_false, not_true, not_false_iff, Classical.not_not, nem, ite_not, ne_eq]
            exact ecl
          · have T1 := R1.2.1
            obtain ⟨h2, e2, F2, B2⟩ := find_same (d := d + 4) T1 R1.2.2.1 ag (show s < 6 by omega) Q1
            refine ⟨h2, ?_, F2.km⟩
            have hk' : 0 ≤ k ∧ k ≤ hI h1 56 0 := by rw [ag 56 (by omega) (by omega)]; exact hk
            have em1 := fun d => em d h1 T1 (by rw [ag 56 (by omega) (by omega)]; exact s2)
            rw [E_192, B_192_0 T1]
            simp (decide := true) (disch := (first | assumption | (simp only [Sh_setI, Sm_setI, Sh_setL, Sm_setL]; assumption) | omega)) only [em1, B_192_5, B_192_12, B_192_17, B_192_20, B_192_26, B_192_33, m_isKnown T1, hk', m_in, n_Ole, n_leO, Nat.zero_le, hq, e2, bI_True, bI_False, p_max, p_min, p_abs, Option.bind_some, Option.bind_none, Option.toList_some, Option.toList_none, List.cons_append, List.nil_append, bI_eq0, bI_ne0, bI_ne1, bI_eq1, bI_01, eq_self, true_or, or_true, and_true, true_and, false_and, and_false, false_or, or_false, ite_true, ite_false, if_true, if_false, not_true, not_false_iff, Classical.not_not, nem, ite_not, ne_eq]
            exact eml h2 (F2.1.sm T1) B2
        have S1 := F1.sh S
        cases b with
        | none => exact fin (-3) (by simp (decide := true) (disch := (first | assumption | (simp only [Sh_setI, Sm_setI, Sh_setL, Sm_setL]; assumption) | omega)) only [B_92_43, B_92_46, bI_True, bI_False, p_max, p_min, p_abs, Option.bind_some, Option.bind_none, Option.toList_some, Option.toList_none, List.cons_append, List.nil_append, bI_eq0, bI_ne0, bI_ne1, bI_eq1, bI_01, eq_self, true_or, or_true, and_true, true_and, false_and, and_false, false_or, or_false, ite_true, ite_false, if_true, if_false, not_true, not_false_iff, Classical.not_not, nem, ite_not, ne_eq]) (fun h2 T2 B2 => by simp (decide := true) (disch := (first | assumption | (simp only [Sh_setI, Sm_setI, Sh_setL, Sm_setL]; assumption) | omega)) only [B_192_39, B_192_42, bI_True, bI_False, p_max, p_min, p_abs, Option.bind_some, Option.bind_none, Option.toList_some, Option.toList_none, List.cons_append, List.nil_append, bI_eq0, bI_ne0, bI_ne1, bI_eq1, bI_01, eq_self, true_or, or_true, and_true, true_and, false_and, and_false, false_or, or_false, ite_true, ite_false, if_true, if_false, not_true, not_false_iff, Classical.not_not, nem, ite_not, ne_eq])
        | some y =>
          obtain ⟨c8, c9, c10, c11, c12⟩ := B1
          obtain ⟨o1, o2, o3⟩ := off_lt I Q1
          match q, hq with
          | 0, _ => exact fin (Int32.toInt64 (nI y.1)) (by simp (decide := true) (disch := (first | assumption | (simp only [Sh_setI, Sm_setI, Sh_setL, Sm_setL]; assumption) | omega)) only [B_92_43, reduceCtorEq, B_92_50, am_swE, n_eqO, B_92_76 S1, c9, bI_True, bI_False, p_max, p_min, p_abs, Option.bind_some, Option.bind_none, Option.toList_some, Option.toList_none, List.cons_append, List.nil_append, bI_eq0, bI_ne0, bI_ne1, bI_eq1, bI_01, eq_self, true_or, or_true, and_true, true_and, false_and, and_false, false_or, or_false, ite_true, ite_false, if_true, if_false, not_true, not_false_iff, Classical.not_not, nem, ite_not, ne_eq]) (fun h2 T2 B2 => by simp (decide := true) (disch := (first | assumption | (simp only [Sh_setI, Sm_setI, Sh_setL, Sm_setL]; assumption) | omega)) only [B_192_39, reduceCtorEq, B_192_46, n_eqO, B_192_50 T2, B_192_89, B2.2.1, bI_True, bI_False, p_max, p_min, p_abs, Option.bind_some, Option.bind_none, Option.toList_some, Option.toList_none, List.cons_append, List.nil_append, bI_eq0, bI_ne0, bI_ne1, bI_eq1, bI_01, eq_self, true_or, or_true, and_true, true_and, false_and, and_false, false_or, or_false, ite_true, ite_false, if_true, if_false, not_true, not_false_iff, Classical.not_not, nem, ite_not, ne_eq])
          | 1, _ => exact fin (Int32.toInt64 (nI (20 * y.2))) (by simp (decide := true) (disch := (first | assumption | (simp only [Sh_setI, Sm_setI, Sh_setL, Sm_setL]; assumption) | omega)) only [B_92_43, reduceCtorEq, B_92_50, am_swE, n_eqO, B_92_85 S1, c10, bI_True, bI_False, p_max, p_min, p_abs, Option.bind_some, Option.bind_none, Option.toList_some, Option.toList_none, List.cons_append, List.nil_append, bI_eq0, bI_ne0, bI_ne1, bI_eq1, bI_01, eq_self, true_or, or_true, and_true, true_and, false_and, and_false, false_or, or_false, ite_true, ite_false, if_true, if_false, not_true, not_false_iff, Classical.not_not, nem, ite_not, ne_eq]) (fun h2 T2 B2 => by simp (decide := true) (disch := (first | assumption | (simp only [Sh_setI, Sm_setI, Sh_setL, Sm_setL]; assumption) | omega)) only [B_192_39, reduceCtorEq, B_192_46, n_eqO, B_192_58, B_192_63 T2, B_192_89, B2.2.2.1, bI_True, bI_False, p_max, p_min, p_abs, Option.bind_some, Option.bind_none, Option.toList_some, Option.toList_none, List.cons_append, List.nil_append, bI_eq0, bI_ne0, bI_ne1, bI_eq1, bI_01, eq_self, true_or, or_true, and_true, true_and, false_and, and_false, false_or, or_false, ite_true, ite_false, if_true, if_false, not_true, not_false_iff, Classical.not_not, nem, ite_not, ne_eq])
          | 2, _ => exact fin (Int32.toInt64 (midP (hI h) k (LF (hI h) s k (yC (hI h))) y.1 y.2)) (by simp (decide := true) (disch := (first | assumption | (simp only [Sh_setI, Sm_setI, Sh_setL, Sm_setL]; assumption) | omega)) only [B_92_43, reduceCtorEq, B_92_50, am_swE, n_eqO, B_92_94 S1, c11, bI_True, bI_False, p_max, p_min, p_abs, Option.bind_some, Option.bind_none, Option.toList_some, Option.toList_none, List.cons_append, List.nil_append, bI_eq0, bI_ne0, bI_ne1, bI_eq1, bI_01, eq_self, true_or, or_true, and_true, true_and, false_and, and_false, false_or, or_false, ite_true, ite_false, if_true, if_false, not_true, not_false_iff, Classical.not_not, nem, ite_not, ne_eq]) (fun h2 T2 B2 => by simp (decide := true) (disch := (first | assumption | (simp only [Sh_setI, Sm_setI, Sh_setL, Sm_setL]; assumption) | omega)) only [B_192_39, reduceCtorEq, B_192_46, n_eqO, B_192_58, B_192_71, B_192_76 T2, B_192_89, B2.2.2.2, bI_True, bI_False, p_max, p_min, p_abs, Option.bind_some, Option.bind_none, Option.toList_some, Option.toList_none, List.cons_append, List.nil_append, bI_eq0, bI_ne0, bI_ne1, bI_eq1, bI_01, eq_self, true_or, or_true, and_true, true_and, false_and, and_false, false_or, or_false, ite_true, ite_false, if_true, if_false, not_true, not_false_iff, Classical.not_not, nem, ite_not, ne_eq])
          | 3, _ => exact fin (lI (offP (hI h) k (LF (hI h) s k (yC (hI h))) y.1 y.2)) (by simp (decide := true) (disch := (first | assumption | (simp only [Sh_setI, Sm_setI, Sh_setL, Sm_setL]; assumption) | omega)) only [B_92_43, reduceCtorEq, B_92_50, am_swE, n_eqO, B_92_103 S1, c12, bI_True, bI_False, p_max, p_min, p_abs, Option.bind_some, Option.bind_none, Option.toList_some, Option.toList_none, List.cons_append, List.nil_append, bI_eq0, bI_ne0, bI_ne1, bI_eq1, bI_01, eq_self, true_or, or_true, and_true, true_and, false_and, and_false, false_or, or_false, ite_true, ite_false, if_true, if_false, not_true, not_false_iff, Classical.not_not, nem, ite_not, ne_eq]) (fun h2 T2 B2 => by simp (decide := true) (disch := (first | assumption | (simp only [Sh_setI, Sm_setI, Sh_setL, Sm_setL]; assumption) | omega)) only [B_192_39, reduceCtorEq, B_192_46, n_eqO, B_192_58, B_192_71, B_192_84 T2, B_192_89, B2.1, l_nI, bI_True, bI_False, p_max, p_min, p_abs, Option.bind_some, Option.bind_none, Option.toList_some, Option.toList_none, List.cons_append, List.nil_append, bI_eq0, bI_ne0, bI_ne1, bI_eq1, bI_01, eq_self, true_or, or_true, and_true, true_and, false_and, and_false, false_or, or_false, ite_true, ite_false, if_true, if_false, not_true, not_false_iff, Classical.not_not, nem, ite_not, ne_eq])
      · exact stp_same (v := vl (-2)) R (by simp (decide := true) (disch := (first | assumption | (simp only [Sh_setI, Sm_setI, Sh_setL, Sm_setL]; assumption) | omega)) only [E_92, B_92_0 S, ec, ss.1, B_92_5, B_92_16, B_92_21, B_92_24, B_92_30, B_92_33, reduceCtorEq, c_isDay S, b1, hk, c_isIn, hw, bI_True, bI_False, p_max, p_min, p_abs, Option.bind_some, Option.bind_none, Option.toList_some, Option.toList_none, List.cons_append, List.nil_append, bI_eq0, bI_ne0, bI_ne1, bI_eq1, bI_01, eq_self, true_or, or_true, and_true, true_and, false_and, and_false, false_or, or_false, ite_true, ite_false, if_true, if_false, not_true, not_false_iff, Classical.not_not, nem, ite_not, ne_eq]) (by simp (decide := true) (disch := (first | assumption | (simp only [Sh_setI, Sm_setI, Sh_setL, Sm_setL]; assumption) | omega)) only [E_192, B_192_0 T, em, s2, B_192_5, B_192_12, B_192_17, B_192_20, B_192_26, B_192_29, m_isKnown T, hk, m_in, hw, bI_True, bI_False, p_max, p_min, p_abs, Option.bind_some, Option.bind_none, Option.toList_some, Option.toList_none, List.cons_append, List.nil_append, bI_eq0, bI_ne0, bI_ne1, bI_eq1, bI_01, eq_self, true_or, or_true, and_true, true_and, false_and, and_false, false_or, or_false, ite_true, ite_false, if_true, if_false, not_true, not_false_iff, Classical.not_not, nem, ite_not, ne_eq])
    · exact stp_same (v := vl (-2)) R (by simp (decide := true) (disch := (first | assumption | (simp only [Sh_setI, Sm_setI, Sh_setL, Sm_setL]; assumption) | omega)) only [E_92, B_92_0 S, ec, ss.1, B_92_5, B_92_16, B_92_21, B_92_33, reduceCtorEq, c_isDay S, b1, hk, bI_True, bI_False, p_max, p_min, p_abs, Option.bind_some, Option.bind_none, Option.toList_some, Option.toList_none, List.cons_append, List.nil_append, bI_eq0, bI_ne0, bI_ne1, bI_eq1, bI_01, eq_self, true_or, or_true, and_true, true_and, false_and, and_false, false_or, or_false, ite_true, ite_false, if_true, if_false, not_true, not_false_iff, Classical.not_not, nem, ite_not, ne_eq]) (by simp (decide := true) (disch := (first | assumption | (simp only [Sh_setI, Sm_setI, Sh_setL, Sm_setL]; assumption) | omega)) only [E_192, B_192_0 T, em, s2, B_192_5, B_192_12, B_192_17, B_192_29, m_isKnown T, hk, bI_True, bI_False, p_max, p_min, p_abs, Option.bind_some, Option.bind_none, Option.toList_some, Option.toList_none, List.cons_append, List.nil_append, bI_eq0, bI_ne0, bI_ne1, bI_eq1, bI_01, eq_self, true_or, or_true, and_true, true_and, false_and, and_false, false_or, or_false, ite_true, ite_false, if_true, if_false, not_true, not_false_iff, Classical.not_not, nem, ite_not, ne_eq])
  · exact stp_same (v := vl (-4611686018427387904)) R (by simp (decide := true) (disch := (first | assumption | (simp only [Sh_setI, Sm_setI, Sh_setL, Sm_setL]; assumption) | omega)) only [E_92, B_92_0 S, c_shakeNo S (x := x) (by rw [s1]; exact hx), B_92_5, B_92_12, bI_True, bI_False, p_max, p_min, p_abs, Option.bind_some, Option.bind_none, Option.toList_some, Option.toList_none, List.cons_append, List.nil_append, bI_eq0, bI_ne0, bI_ne1, bI_eq1, bI_01, eq_self, true_or, or_true, and_true, true_and, false_and, and_false, false_or, or_false, ite_true, ite_false, if_true, if_false, not_true, not_false_iff, Classical.not_not, nem, ite_not, ne_eq]) (by simp (decide := true) (disch := (first | assumption | (simp only [Sh_setI, Sm_setI, Sh_setL, Sm_setL]; assumption) | omega)) only [E_192, B_192_0 T, m_isShake T, hx, B_192_5, B_192_8, bI_True, bI_False, p_max, p_min, p_abs, Option.bind_some, Option.bind_none, Option.toList_some, Option.toList_none, List.cons_append, List.nil_append, bI_eq0, bI_ne0, bI_ne1, bI_eq1, bI_01, eq_self, true_or, or_true, and_true, true_and, false_and, and_false, false_or, or_false, ite_true, ite_false, if_true, if_false, not_true, not_false_iff, Classical.not_not, nem, ite_not, ne_eq])
theorem s_settle (R : Rel h) (hb : hk h < 900000) {x k : Int32} : Stq (d + 22) 102 196 [vi x, vi k] h := by
  obtain ⟨S, T, I, C, L⟩ := id R
  have b1 : hI h 1 7 = hI h 56 0 := C.1.1
  have s1 : hI h 1 5 = hI h 56 8 := C.2.2.1.1
  have s2 : hI h 56 8 = nI (yS (hI h)) := I.2.2.1.1.1
  have s3 : yS (hI h) ≤ 6 := I.2.2.1.1.2
  rcases in_IxM x (yS (hI h)) s2 (by omega) with ⟨s, hs', rfl⟩ | hx
  · obtain ⟨sn, ss⟩ := C.2.2.1.2 s hs'
    have ec := fun d => c_shakeAt (d := d) S (s1.trans s2) s3 hs'
    have em := fun d h' (T' : Sm h') (e : hI h' 56 8 = nI (yS (hI h))) => m_isShakeT (d := d) (h := h') T' e hs' (by omega)
    by_cases hk : 0 ≤ k ∧ k ≤ hI h 56 0
    · obtain ⟨h1, b, e1, F1, B1, Q1⟩ := c_find (d := d + 3) S I C (v := k) (show s < 6 by omega)
      have S1 := F1.sh S
      have hcl : Cl (d + 22) 102 [vr (some 1), vi (nI s), vi k] h = Ev (d + 22) 102 32 [vr (some 1), vi (nI s), vi k, vr (some sn), vu] [vi (bI (b ≠ none))] h1 := by
        rw [E_102, B_102_0 S]
        simp (decide := true) (disch := (first | assumption | (simp only [Sh_setI, Sm_setI, Sh_setL, Sm_setL]; assumption) | omega)) only [ec, ss.1, B_102_5, B_102_14, B_102_19, B_102_26, reduceCtorEq, c_isDay S, b1, hk, e1, bI_True, bI_False, p_max, p_min, p_abs, Option.bind_some, Option.bind_none, Option.toList_some, Option.toList_none, List.cons_append, List.nil_append, bI_eq0, bI_ne0, bI_ne1, bI_eq1, bI_01, eq_self, true_or, or_true, and_true, true_and, false_and, and_false, false_or, or_false, ite_true, ite_false, if_true, if_false, not_true, not_false_iff, Classical.not_not, nem, ite_not, ne_eq]
      cases b with
      | none =>
        refine stp_pure (v := vl (-4611686018427387902)) R hb ?_ F1.kp (fun R1 ag => ?_)
        · rw [hcl]
          simp (decide := true) (disch := (first | assumption | (simp only [Sh_setI, Sm_setI, Sh_setL, Sm_setL]; assumption) | omega)) only [B_102_32, B_102_35, bI_True, bI_False, p_max, p_min, p_abs, Option.bind_some, Option.bind_none, Option.toList_some, Option.toList_none, List.cons_append, List.nil_append, bI_eq0, bI_ne0, bI_ne1, bI_eq1, bI_01, eq_self, true_or, or_true, and_true, true_and, false_and, and_false, false_or, or_false, ite_true, ite_false, if_true, if_false, not_true, not_false_iff, Classical.not_not, nem, ite_not, ne_eq]
        · have T1 := R1.2.1
          obtain ⟨h2, e2, F2, B2⟩ := find_same (d := d + 4) T1 R1.2.2.1 ag (show s < 6 by omega) Q1
          refine ⟨h2, ?_, F2.km⟩
          have hk' : 0 ≤ k ∧ k ≤ hI h1 56 0 := by rw [ag 56 (by omega) (by omega)]; exact hk
          have em1 := fun d => em d h1 T1 (by rw [ag 56 (by omega) (by omega)]; exact s2)
          rw [E_196, B_196_0 T1]
          simp (decide := true) (disch := (first | assumption | (simp only [Sh_setI, Sm_setI, Sh_setL, Sm_setL]; assumption) | omega)) only [em1, B_196_5, B_196_12, B_196_17, B_196_24, B_196_30, B_196_33, m_isKnown T1, hk', e2, bI_True, bI_False, p_max, p_min, p_abs, Option.bind_some, Option.bind_none, Option.toList_some, Option.toList_none, List.cons_append, List.nil_append, bI_eq0, bI_ne0, bI_ne1, bI_eq1, bI_01, eq_self, true_or, or_true, and_true, true_and, false_and, and_false, false_or, or_false, ite_true, ite_false, if_true, if_false, not_true, not_false_iff, Classical.not_not, nem, ite_not, ne_eq]
      | some y =>
        obtain ⟨c8, c9, c10, c11, c12⟩ := B1
        obtain ⟨o1, o2, o3⟩ := off_lt I Q1
        have R1 := F1.kp.rel hb R
        obtain ⟨-, T1, I1, C1, L1⟩ := id R1
        have ag : ∀ n, 56 ≤ n → n ≤ 88 → hI h1 n = hI h n := fun n q1 q2 => F1.2.2.2.2.2 n (by omega)
        have ys : yS (hI h1) = yS (hI h) := by unfold yS; rw [ag 56 (by omega) (by omega)]
        have hn1 : hR h1 8 s = some sn := by rw [F1.2.2.2.1]; exact ss.1
        obtain ⟨n2, n3, n4, n5, CS⟩ := set_shake C1 I1.2.1.1.2 I1.2.2.1.1.2 (by rw [ys]; exact hs') hn1 (nI y.1) (nI (20 * y.2)) (clampH (midP (hI h) k (LF (hI h) s k (yC (hI h))) y.1 y.2))
        have IS := inv_shake I1 (s := s) (isN_of (a := y.1) (b := 359) (by omega) (by omega)) (isN_of (a := 20 * y.2) (b := 99) (by omega) (by omega)) (clamp_ok (x := midP (hI h) k (LF (hI h) s k (yC (hI h))) y.1 y.2))
        have ws : hI h1 sn 3 = hI h1 64 s := by
          obtain ⟨n', p1, p2, p3, p4, p5, p6, p7, p8⟩ := C1.2.2.1.2 s (by rw [ys]; exact hs')
          rw [hn1] at p1
          cases p1
          exact p8
        have kn9 : hkd h1 sn = 9 := n2
        generalize hmid : midP (hI h) k (LF (hI h) s k (yC (hI h))) y.1 y.2 = mid at *
        obtain ⟨hA, eA⟩ : ∃ hA, hA = setI (setI (setI h1 sn 1 (nI y.1)) sn 2 (nI (20 * y.2))) sn 3 (clampH mid) := ⟨_, rfl⟩
        have KA : Kd 9 h1 hA := by rw [eA]; exact ((Kd.rf.di n2).di n2).di n2
        have agA : ∀ n, 56 ≤ n → n ≤ 88 → hI hA n = hI h n := fun n q1 q2 => by
          rw [eA, hI_ne (by omega), hI_ne (by omega), hI_ne (by omega)]
          exact ag n q1 q2
        have TA : Sm hA := KA.sm T1
        have IA : Inv (hI hA) := Inv_cg (fun n q1 q2 => agA n (by omega) (by omega)) (fun f _ => by rw [agA 56 (by omega) (by omega)]) I
        obtain ⟨h2, e2, F2, B2⟩ := find_same (d := d + 4) TA IA agA (show s < 6 by omega) Q1
        have T2 : Sm h2 := F2.1.sm TA
        have s6 : s < 6 := by omega
        have k64 : hkd h2 64 = 100 := T2.kd (n := 64) (k := 100) rfl rfl
        have l64 : hln h2 64 = 6 := T2.ln (n := 64) (k := 6) rfl rfl
        obtain ⟨m1, m2, m3, m4⟩ := B2
        rw [hmid] at m4
        have st2 := F2.1.2.2.2.2.2
        have w64 : hI h2 64 s = hI h1 64 s := by rw [st2 64 (by omega), agA 64 (by omega) (by omega), ag 64 (by omega) (by omega)]
        obtain ⟨hB, eB⟩ : ∃ hB, hB = setI (setI (setI h2 62 s (nI y.1)) 63 s (nI (20 * y.2))) 64 s (clampH mid) := ⟨_, rfl⟩
        have FB : Fi (fun a => 56 ≤ a ∧ a ≤ 88) hA hB := by
          rw [eB]
          exact (((F2.1.mono (fun n q => by omega)).si (by omega)).si (by omega)).si (by omega)
        have KB : Kd 9 h1 hB := by
          have k2 : Kd 9 hA hB := FB.kd (fun n q => Or.inr q)
          exact ⟨k2.1.trans KA.1, k2.2.1.trans KA.2.1, k2.2.2.1.trans KA.2.2.1, k2.2.2.2.1.trans KA.2.2.2.1, k2.2.2.2.2.1.trans KA.2.2.2.2.1, fun n q1 q2 q3 => (k2.2.2.2.2.2 n q1 q2 (by rw [KA.2.1]; exact q3)).trans (KA.2.2.2.2.2 n q1 q2 q3)⟩
        have eM : ∀ n, 57 ≤ n → n ≤ 84 → hI hB n = upm (upm (upm (hI h1) 62 s (nI y.1)) 63 s (nI (20 * y.2))) 64 s (clampH mid) n := by
          intro n q1 q2
          have z : ∀ n, 57 ≤ n → n ≤ 84 → hI h2 n = hI h1 n := fun n q1 q2 => by rw [st2 n (by omega), agA n (by omega) (by omega), ag n (by omega) (by omega)]
          rw [eB]
          by_cases a1 : n = 64
          · rw [a1, ups_h, hI_ne (by omega), hI_ne (by omega), z 64 (by omega) (by omega)]
            funext j
            rw [upm_eq, upm_ne (by omega), upm_ne (by omega)]
            rfl
          · rw [hI_ne a1, upm_ne a1]
            by_cases a2 : n = 63
            · rw [a2, ups_h, hI_ne (by omega), z 63 (by omega) (by omega)]
              funext j
              rw [upm_eq, upm_ne (by omega)]
              rfl
            · rw [hI_ne a2, upm_ne a2]
              by_cases a3 : n = 62
              · rw [a3, ups_h, z 62 (by omega) (by omega)]
                funext j
                rw [upm_eq]
                rfl
              · rw [hI_ne a3, upm_ne a3, z n q1 q2]
        have eF : ∀ f, f < 44 → hI hB 56 f = upm (upm (upm (hI h1) 62 s (nI y.1)) 63 s (nI (20 * y.2))) 64 s (clampH mid) 56 f := by
          intro f q
          rw [upm_ne (by omega), upm_ne (by omega), upm_ne (by omega), eB, hI_ne (by omega), hI_ne (by omega), hI_ne (by omega), F2.2 f (by omega), agA 56 (by omega) (by omega), ag 56 (by omega) (by omega)]
        have gr1 := F1.kp.gr L
        have gr2 : Gr h1 hB := KB.gr L1 (by decide)
        have k2 : Kd 9 h1 hB := KB
        refine ⟨vl (Int32.toInt64 (clampH mid - hI h1 64 s)), hA, hB, ?_, ?_, ⟨KB.sh S1, KB.sm T1, Inv_cg eM eF IS, CR_cg eM eF ?_, KB.lt S1 L1 (by decide)⟩, ?_⟩
        · rw [hcl, eA]
          simp (decide := true) (disch := (first | assumption | (simp only [Sh_setI, Sm_setI, Sh_setL, Sm_setL]; assumption) | omega)) only [B_102_32, reduceCtorEq, B_102_39 S1, kn9, xkd_setI, hI_ne, c9, c10, B_102_67, c11, B_102_82, B_102_85, clamp_c, hI_eq, ws, bI_True, bI_False, p_max, p_min, p_abs, Option.bind_some, Option.bind_none, Option.toList_some, Option.toList_none, List.cons_append, List.nil_append, bI_eq0, bI_ne0, bI_ne1, bI_eq1, bI_01, eq_self, true_or, or_true, and_true, true_and, false_and, and_false, false_or, or_false, ite_true, ite_false, if_true, if_false, not_true, not_false_iff, Classical.not_not, nem, ite_not, ne_eq]
        · have hk' : 0 ≤ k ∧ k ≤ hI hA 56 0 := by rw [agA 56 (by omega) (by omega)]; exact hk
          have em1 := fun d => em d hA TA (by rw [agA 56 (by omega) (by omega)]; exact s2)
          have T3 : Sm (setI (setI h2 62 s (nI y.1)) 63 s (nI (20 * y.2))) := T2.si.si
          have k64' : hkd (setI (setI h2 62 s (nI y.1)) 63 s (nI (20 * y.2))) 64 = 100 := by rw [xkd_setI, xkd_setI]; exact k64
          have l64' : hln (setI (setI h2 62 s (nI y.1)) 63 s (nI (20 * y.2))) 64 = 6 := by rw [xln_setI, xln_setI]; exact l64
          have m4' : hI (setI (setI h2 62 s (nI y.1)) 63 s (nI (20 * y.2))) 56 59 = mid := by rw [hI_ne (by omega), hI_ne (by omega)]; exact m4
          rw [E_196, B_196_0 TA]
          simp (decide := true) (disch := (first | assumption | (simp only [Sh_setI, Sm_setI, Sh_setL, Sm_setL]; assumption) | omega)) only [em1, B_196_5, B_196_12, B_196_17, B_196_24, B_196_30, m_isKnown TA, hk', e2, reduceCtorEq, B_196_37 T2, n_ix, n_cl, m2, m3, hI_ne, w64, bI_True, bI_False, p_max, p_min, p_abs, Option.bind_some, Option.bind_none, Option.toList_some, Option.toList_none, List.cons_append, List.nil_append, bI_eq0, bI_ne0, bI_ne1, bI_eq1, bI_01, eq_self, true_or, or_true, and_true, true_and, false_and, and_false, false_or, or_false, ite_true, ite_false, if_true, if_false, not_true, not_false_iff, Classical.not_not, nem, ite_not, ne_eq]
          rw [B_196_64 T3, m4', eB]
          unfold clampH
          by_cases a : 0 ≤ mid
          · by_cases c : mid ≤ 9999999
            · simp (decide := true) (disch := (first | assumption | (simp only [Sh_setI, Sm_setI, Sh_setL, Sm_setL]; assumption) | omega)) only [a, B_196_80 T3, m4', c, B_196_94 T3, B_196_98 T3, k64', l64', n_ix, n_cl, hI_eq, bI_True, bI_False, p_max, p_min, p_abs, Option.bind_some, Option.bind_none, Option.toList_some, Option.toList_none, List.cons_append, List.nil_append, bI_eq0, bI_ne0, bI_ne1, bI_eq1, bI_01, eq_self, true_or, or_true, and_true, true_and, false_and, and_false, false_or, or_false, ite_true, ite_false, if_true, if_false, not_true, not_false_iff, Classical.not_not, nem, ite_not, ne_eq]
            · simp (decide := true) (disch := (first | assumption | (simp only [Sh_setI, Sm_setI, Sh_setL, Sm_setL]; assumption) | omega)) only [a, B_196_80 T3, m4', c, B_196_89, B_196_98 T3, k64', l64', n_ix, n_cl, hI_eq, bI_True, bI_False, p_max, p_min, p_abs, Option.bind_some, Option.bind_none, Option.toList_some, Option.toList_none, List.cons_append, List.nil_append, bI_eq0, bI_ne0, bI_ne1, bI_eq1, bI_01, eq_self, true_or, or_true, and_true, true_and, false_and, and_false, false_or, or_false, ite_true, ite_false, if_true, if_false, not_true, not_false_iff, Classical.not_not, nem, ite_not, ne_eq]
          · simp (decide := true) (disch := (first | assumption | (simp only [Sh_setI, Sm_setI, Sh_setL, Sm_setL]; assumption) | omega)) only [a, B_196_76, B_196_98 T3, k64', l64', n_ix, n_cl, hI_eq, bI_True, bI_False, p_max, p_min, p_abs, Option.bind_some, Option.bind_none, Option.toList_some, Option.toList_none, List.cons_append, List.nil_append, bI_eq0, bI_ne0, bI_ne1, bI_eq1, bI_01, eq_self, true_or, or_true, and_true, true_and, false_and, and_false, false_or, or_false, ite_true, ite_false, if_true, if_false, not_true, not_false_iff, Classical.not_not, nem, ite_not, ne_eq]
        · refine (FB.kq (fun n q => q)).cr (KA.sh S1) ?_
          rw [eA]
          exact CS
        · exact ⟨gr2.1.trans gr1.1, gr2.2.1.trans gr1.2.1, gr2.2.2.1.trans gr1.2.2.1, by have := gr2.2.2.2.1; have := gr1.2.2.2.1; omega, by have := gr2.2.2.2.2; have := gr1.2.2.2.2; omega⟩
    · exact stp_same (v := vl (-4611686018427387903)) R (by simp (decide := true) (disch := (first | assumption | (simp only [Sh_setI, Sm_setI, Sh_setL, Sm_setL]; assumption) | omega)) only [E_102, B_102_0 S, ec, ss.1, B_102_5, B_102_14, B_102_19, B_102_22, reduceCtorEq, c_isDay S, b1, hk, bI_True, bI_False, p_max, p_min, p_abs, Option.bind_some, Option.bind_none, Option.toList_some, Option.toList_none, List.cons_append, List.nil_append, bI_eq0, bI_ne0, bI_ne1, bI_eq1, bI_01, eq_self, true_or, or_true, and_true, true_and, false_and, and_false, false_or, or_false, ite_true, ite_false, if_true, if_false, not_true, not_false_iff, Classical.not_not, nem, ite_not, ne_eq]) (by simp (decide := true) (disch := (first | assumption | (simp only [Sh_setI, Sm_setI, Sh_setL, Sm_setL]; assumption) | omega)) only [E_196, B_196_0 T, em, s2, B_196_5, B_196_12, B_196_17, B_196_20, m_isKnown T, hk, bI_True, bI_False, p_max, p_min, p_abs, Option.bind_some, Option.bind_none, Option.toList_some, Option.toList_none, List.cons_append, List.nil_append, bI_eq0, bI_ne0, bI_ne1, bI_eq1, bI_01, eq_self, true_or, or_true, and_true, true_and, false_and, and_false, false_or, or_false, ite_true, ite_false, if_true, if_false, not_true, not_false_iff, Classical.not_not, nem, ite_not, ne_eq])
  · exact stp_same (v := vl (-4611686018427387904)) R (by simp (decide := true) (disch := (first | assumption | (simp only [Sh_setI, Sm_setI, Sh_setL, Sm_setL]; assumption) | omega)) only [E_102, B_102_0 S, c_shakeNo S (x := x) (by rw [s1]; exact hx), B_102_5, B_102_10, bI_True, bI_False, p_max, p_min, p_abs, Option.bind_some, Option.bind_none, Option.toList_some, Option.toList_none, List.cons_append, List.nil_append, bI_eq0, bI_ne0, bI_ne1, bI_eq1, bI_01, eq_self, true_or, or_true, and_true, true_and, false_and, and_false, false_or, or_false, ite_true, ite_false, if_true, if_false, not_true, not_false_iff, Classical.not_not, nem, ite_not, ne_eq]) (by simp (decide := true) (disch := (first | assumption | (simp only [Sh_setI, Sm_setI, Sh_setL, Sm_setL]; assumption) | omega)) only [E_196, B_196_0 T, m_isShake T, hx, B_196_5, B_196_8, bI_True, bI_False, p_max, p_min, p_abs, Option.bind_some, Option.bind_none, Option.toList_some, Option.toList_none, List.cons_append, List.nil_append, bI_eq0, bI_ne0, bI_ne1, bI_eq1, bI_01, eq_self, true_or, or_true, and_true, true_and, false_and, and_false, false_or, or_false, ite_true, ite_false, if_true, if_false, not_true, not_false_iff, Classical.not_not, nem, ite_not, ne_eq])
end PLACE8
