/-! law -/
theorem Fi.km {P : Nat → Prop} {h h' : am_H} (F : Fi P h h') (w : ∀ n, P n → 86 ≤ n ∧ n ≤ 88) : Km h h' := ⟨F.1, F.2.1, F.2.2.1, F.2.2.2.1, F.2.2.2.2.1, fun n j q => by
  rw [F.2.2.2.2.2 n (fun z => by
    have := w n z
    simp [scrM] at q
    omega)]⟩
theorem Ft.kp {m : am_M} {h h' : am_H} {n0 t : Nat} {A B : List tOp} (C : CR m h) (F : Ft n0 h h') (X : textAt_ m h t n0 A B) (ht : t < yT m) : Kp h h' := by
  have x3 := X.2.2.1
  have x2 := X.2.1
  have xr := X.1
  have e11 : hI h 1 11 = m 56 25 := C.2.2.2.2.1.2.1
  refine ⟨F.1, F.2.1, F.2.2.1, F.2.2.2.1, fun n _ => by rw [F.2.2.2.2.1], funext fun j => F.2.2.2.2.2 1 j (by omega) (by omega) (by omega), fun n j q1 q2 q3 => F.2.2.2.2.2 n j ?_ ?_ ?_⟩
  · rintro rfl
    exact absurd q1 (by decide)
  · exact q3 t n0 (by rw [e11]; exact ht) xr
  · rintro rfl
    exact q2 x2
theorem rule_env {m : am_M} {h : am_H} (I : Inv m) (C : CR m h) : cl (m 56 26) < yT m ∧ ∃ n0 A B, textAt_ m h (cl (m 56 26)) n0 A B := ⟨I.2.2.2.2.1.2.2.2, C.2.2.2.2.1.2.2.2 _ I.2.2.2.2.1.2.2.2⟩
theorem textAt_cg {m m' : am_M} {h : am_H} {t n0 : Nat} {A B : List tOp} (e : m' 74 = m 74) (e2 : m' 75 = m 75) (X : textAt_ m h t n0 A B) : textAt_ m' h t n0 A B := by
  unfold textAt_
  rw [e, e2]
  exact X
section LAW
variable {d : Nat} {h : am_H}
theorem s_law (R : Rel h) (hb : hk h < 900000) {c w k : Int32} : Stq (d + 22) 84 187 [vi c, vi w, vi k] h := by
  obtain ⟨S, T, I, C, L⟩ := id R
  have q1 : hI h 1 6 = hI h 56 12 := C.2.2.2.1.1
  have q2 : hI h 56 12 = nI (yC (hI h)) := I.2.2.2.1.1.1
  have q3 : yC (hI h) ≤ 40 := I.2.2.2.1.1.2
  have b1 : hI h 1 7 = hI h 56 0 := C.1.1
  have k1 : hkd h 1 = 0 := S.kd (n := 1) (k := 0) rfl rfl
  rcases in_IxM c (yC (hI h)) q2 (by omega) with ⟨c, hc, rfl⟩ | hc
  · obtain ⟨n, dn, sn, E⟩ := card_env I C hc
    have J := card_int I hc
    obtain ⟨kd, hkd', ekd⟩ := J.1
    have el := fun d => c_lateness (d := d) S C.1 I E J hkd' (v := k)
    have ec := fun d => c_cardAt (d := d) S (q1.trans q2) q3 hc
    have em := fun d => m_isCardT (d := d) T q2 hc (by omega)
    have r1 := E.2.1.1
    have r2 := E.2.1.2.1
    have e0 := E.2.2.1.1
    rcases in_M w 1 (M := 1) rfl (by decide) with ⟨p, hp, rfl⟩ | hw
    · by_cases hk : 0 ≤ k ∧ k ≤ hI h 56 0
      · obtain ⟨ht, n0, A, B, X⟩ := rule_env I C
        obtain ⟨h1, e1, F1⟩ := c_rule (d := d + 4) S I C E J X (show p < 2 by omega) (late := lateF (hI h) c kd k)
        refine stp_pure (v := vl (Int32.toInt64 (saysF (hI h) c (lateF (hI h) c kd k) (if p = 0 then A else B)))) R hb ?_ (F1.kp C X ht) (fun R1 ag => ?_)
        · simp (decide := true) (disch := (first | assumption | (simp only [Sh_setI, Sm_setI, Sh_setL, Sm_setL]; assumption) | omega)) only [E_84, B_84_0, B_84_5, B_84_12, B_84_18, B_84_21, B_84_26, B_84_33, B_84_49, B_84_52, ec, r1, reduceCtorEq, c_isIn, n_Ole, n_leO, Nat.zero_le, hp, c_isDay S, b1, hk, r2, e0, ekd, el, k1, e1, bI_True, bI_False, p_max, p_min, p_abs, Option.bind_some, Option.bind_none, Option.toList_some, Option.toList_none, List.cons_append, List.nil_append, bI_eq0, bI_ne0, bI_ne1, bI_eq1, bI_01, eq_self, true_or, or_true, and_true, true_and, false_and, and_false, false_or, or_false, ite_true, ite_false, if_true, if_false, not_true, not_false_iff, Classical.not_not, nem, ite_not, ne_eq]
        · have e1' : ∀ n, 57 ≤ n → n ≤ 84 → hI h1 n = hI h n := fun n q1 q2 => ag n (by omega) (by omega)
          have e56 : hI h1 56 = hI h 56 := ag 56 (by omega) (by omega)
          obtain ⟨h2, e2, F2⟩ := m_worth (d := d + 4) R1.2.1 R1.2.2.1 (c := c) (by unfold yC; rw [e56]; exact hc) (hx := h) (n0 := n0) (A := A) (B := B) (by rw [e56]; exact textAt_cg (e1' 74 (by omega) (by omega)) (e1' 75 (by omega) (by omega)) X) (show p < 2 by omega) (v := k)
          have es : saysF (hI h1) c (lateF (hI h1) c (cl (hI h1 65 c)) k) (if p = 0 then A else B) = saysF (hI h) c (lateF (hI h) c kd k) (if p = 0 then A else B) := by
            unfold saysF
            rw [e1' 65 (by omega) (by omega), ekd, cl, n_cl (by omega), factF_cg e1' (by rw [e56])]
          rw [es] at e2
          refine ⟨h2, ?_, F2.km (fun n q => by omega)⟩
          have em1 := fun d => m_isCardT (d := d) R1.2.1 (by rw [e56]; exact q2) hc (by omega)
          have hk' : 0 ≤ k ∧ k ≤ hI h1 56 0 := by rw [e56]; exact hk
          have T1 := R1.2.1
          simp (decide := true) (disch := (first | assumption | (simp only [Sh_setI, Sm_setI, Sh_setL, Sm_setL]; assumption) | omega)) only [E_187, B_187_0, B_187_5, B_187_8, B_187_14, B_187_17, B_187_22, B_187_25, B_187_32, B_187_39, em1, m_in, n_Ole, n_leO, Nat.zero_le, hp, m_isKnown R1.2.1, hk', e2, bI_True, bI_False, p_max, p_min, p_abs, Option.bind_some, Option.bind_none, Option.toList_some, Option.toList_none, List.cons_append, List.nil_append, bI_eq0, bI_ne0, bI_ne1, bI_eq1, bI_01, eq_self, true_or, or_true, and_true, true_and, false_and, and_false, false_or, or_false, ite_true, ite_false, if_true, if_false, not_true, not_false_iff, Classical.not_not, nem, ite_not, ne_eq]
      · exact stp_same (v := vl (-4611686018427387904)) R (by simp (decide := true) (disch := (first | assumption | (simp only [Sh_setI, Sm_setI, Sh_setL, Sm_setL]; assumption) | omega)) only [E_84, B_84_0, B_84_5, B_84_12, B_84_18, B_84_21, B_84_26, B_84_29, ec, r1, reduceCtorEq, c_isIn, n_Ole, n_leO, Nat.zero_le, hp, c_isDay S, b1, hk, bI_True, bI_False, p_max, p_min, p_abs, Option.bind_some, Option.bind_none, Option.toList_some, Option.toList_none, List.cons_append, List.nil_append, bI_eq0, bI_ne0, bI_ne1, bI_eq1, bI_01, eq_self, true_or, or_true, and_true, true_and, false_and, and_false, false_or, or_false, ite_true, ite_false, if_true, if_false, not_true, not_false_iff, Classical.not_not, nem, ite_not, ne_eq]) (by simp (decide := true) (disch := (first | assumption | (simp only [Sh_setI, Sm_setI, Sh_setL, Sm_setL]; assumption) | omega)) only [E_187, B_187_0, B_187_5, B_187_8, B_187_14, B_187_17, B_187_22, B_187_36, B_187_39, em, m_in, n_Ole, n_leO, Nat.zero_le, hp, m_isKnown T, hk, bI_True, bI_False, p_max, p_min, p_abs, Option.bind_some, Option.bind_none, Option.toList_some, Option.toList_none, List.cons_append, List.nil_append, bI_eq0, bI_ne0, bI_ne1, bI_eq1, bI_01, eq_self, true_or, or_true, and_true, true_and, false_and, and_false, false_or, or_false, ite_true, ite_false, if_true, if_false, not_true, not_false_iff, Classical.not_not, nem, ite_not, ne_eq])
    · exact stp_same (v := vl (-4611686018427387904)) R (by simp (decide := true) (disch := (first | assumption | (simp only [Sh_setI, Sm_setI, Sh_setL, Sm_setL]; assumption) | omega)) only [E_84, B_84_0, B_84_5, B_84_12, B_84_18, B_84_29, ec, r1, reduceCtorEq, c_isIn, hw, bI_True, bI_False, p_max, p_min, p_abs, Option.bind_some, Option.bind_none, Option.toList_some, Option.toList_none, List.cons_append, List.nil_append, bI_eq0, bI_ne0, bI_ne1, bI_eq1, bI_01, eq_self, true_or, or_true, and_true, true_and, false_and, and_false, false_or, or_false, ite_true, ite_false, if_true, if_false, not_true, not_false_iff, Classical.not_not, nem, ite_not, ne_eq]) (by simp (decide := true) (disch := (first | assumption | (simp only [Sh_setI, Sm_setI, Sh_setL, Sm_setL]; assumption) | omega)) only [E_187, B_187_0, B_187_5, B_187_8, B_187_14, B_187_36, B_187_39, em, m_in, hw, bI_True, bI_False, p_max, p_min, p_abs, Option.bind_some, Option.bind_none, Option.toList_some, Option.toList_none, List.cons_append, List.nil_append, bI_eq0, bI_ne0, bI_ne1, bI_eq1, bI_01, eq_self, true_or, or_true, and_true, true_and, false_and, and_false, false_or, or_false, ite_true, ite_false, if_true, if_false, not_true, not_false_iff, Classical.not_not, nem, ite_not, ne_eq])
  · exact stp_same (v := vl (-4611686018427387904)) R (by simp (decide := true) (disch := (first | assumption | (simp only [Sh_setI, Sm_setI, Sh_setL, Sm_setL]; assumption) | omega)) only [E_84, B_84_0, B_84_5, B_84_29, c_cardNo S (x := c) (by rw [q1]; exact hc), bI_True, bI_False, p_max, p_min, p_abs, Option.bind_some, Option.bind_none, Option.toList_some, Option.toList_none, List.cons_append, List.nil_append, bI_eq0, bI_ne0, bI_ne1, bI_eq1, bI_01, eq_self, true_or, or_true, and_true, true_and, false_and, and_false, false_or, or_false, ite_true, ite_false, if_true, if_false, not_true, not_false_iff, Classical.not_not, nem, ite_not, ne_eq]) (by simp (decide := true) (disch := (first | assumption | (simp only [Sh_setI, Sm_setI, Sh_setL, Sm_setL]; assumption) | omega)) only [E_187, B_187_0, B_187_5, B_187_36, B_187_39, m_isCard T, hc, bI_True, bI_False, p_max, p_min, p_abs, Option.bind_some, Option.bind_none, Option.toList_some, Option.toList_none, List.cons_append, List.nil_append, bI_eq0, bI_ne0, bI_ne1, bI_eq1, bI_01, eq_self, true_or, or_true, and_true, true_and, false_and, and_false, false_or, or_false, ite_true, ite_false, if_true, if_false, not_true, not_false_iff, Classical.not_not, nem, ite_not, ne_eq])
end LAW
