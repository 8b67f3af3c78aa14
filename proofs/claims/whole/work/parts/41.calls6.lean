/-! called, strange, taken, shadow -/
theorem abs_cond {x off : Int32} (h0 : 0 ≤ off) (h1 : off ≤ 99999) : (¬ x = 1000000000 ∧ (if 0 ≤ x then x else 0 - x) ≤ off) ↔ (x ≤ off ∧ 0 - x ≤ off) := by
  have e0 : (0 : Int32).toInt = 0 := rfl
  have e9 : (99999 : Int32).toInt = 99999 := rfl
  have eN : (1000000000 : Int32).toInt = 1000000000 := rfl
  have hx1 := Int32.le_toInt x
  have hx2 := Int32.toInt_lt x
  have hs : (0 - x).toInt = (0 - x.toInt).bmod (2 ^ 32) := by rw [Int32.toInt_sub, e0]
  rw [Int32.le_iff_toInt_le, e0] at h0
  rw [Int32.le_iff_toInt_le, e9] at h1
  by_cases a : 0 ≤ x
  · rw [if_pos a]
    rw [Int32.le_iff_toInt_le, e0] at a
    have hb : (0 - x.toInt).bmod (2 ^ 32) = 0 - x.toInt := Int.bmod_eq_of_le (by omega) (by omega)
    rw [Int32.le_iff_toInt_le, Int32.le_iff_toInt_le, hs, hb]
    constructor
    · intro w; omega
    · intro w
      refine ⟨fun e => ?_, w.1⟩
      rw [e, eN] at w
      omega
  · rw [if_neg a]
    rw [Int32.le_iff_toInt_le, e0] at a
    rw [Int32.le_iff_toInt_le (x := x)]
    constructor
    · intro w; exact ⟨by omega, w.2⟩
    · intro w
      refine ⟨fun e => ?_, w.2⟩
      rw [e, eN] at a
      omega
def ownF (m : am_M) (c : Nat) (known : Int32) : Int32 := timeF m c known - m 60 (yDr m c) - m 64 (ySh m c)
def calledL (m : am_M) (c : Nat) (off known : Int32) : Nat → Nat → Int32 → Int32
  | 0, _, b => b
  | j + 1, k, b => calledL m c off known j (k + 1) (if ¬ dueC m c k = -1 ∧ ownF m c known - dueC m c k ≤ off ∧ dueC m c k - ownF m c known ≤ off then b ||| (1 <<< (nI k &&& 31)) else b)
section CALLS6
variable {d : Nat} {h : am_H}
theorem s_called (R : Rel h) {c w v : Int32} : Stq (d + 12) 111 203 [vi c, vi w, vi v] h := by
  obtain ⟨S, T, I, C, L⟩ := id R
  have q1 : hI h 1 6 = hI h 56 12 := C.2.2.2.1.1
  have q2 : hI h 56 12 = nI (yC (hI h)) := I.2.2.2.1.1.1
  have q3 : yC (hI h) ≤ 40 := I.2.2.2.1.1.2
  have b1 : hI h 1 7 = hI h 56 0 := C.1.1
  rcases in_IxM c (yC (hI h)) q2 (by omega) with ⟨c, hc, rfl⟩ | hc
  · obtain ⟨n, dn, sn, E⟩ := card_env I C hc
    have J := card_int I hc
    have ec := fun d => c_cardAt (d := d) S (q1.trans q2) q3 hc
    have em := fun d => m_isCardT (d := d) T q2 hc (by omega)
    have hc40 : c < 40 := by omega
    by_cases hw : 0 ≤ w ∧ w ≤ 99999
    · by_cases hv : 0 ≤ v ∧ v ≤ hI h 56 0
      · have hl : ∀ j k b a7, k + j = 6 → Ev (d + 12) 111 43 [vr (some 1), vi (nI c), vi w, vi v, vr (some n), vi b, vi (nI k), a7] [] h = some (some (vi (calledL (hI h) c w v j k b)), h) := by
          intro j
          induction j with
          | zero =>
            intro k b a7 e
            simp (decide := true) (disch := (first | assumption | (simp only [Sh_setI, Sm_setI, Sh_setL, Sm_setL]; assumption) | omega)) only [B_111_43, n_Ole, show 6 ≤ k by omega, B_111_93, calledL, bI_True, bI_False, p_max, p_min, p_abs, Option.bind_some, Option.bind_none, Option.toList_some, Option.toList_none, List.cons_append, List.nil_append, bI_eq0, bI_ne0, bI_ne1, bI_eq1, bI_01, eq_self, true_or, or_true, and_true, true_and, false_and, and_false, false_or, or_false, ite_true, ite_false, if_true, if_false, not_true, not_false_iff, Classical.not_not, nem, ite_not, ne_eq]
          | succ j ih =>
            intro k b a7 e
            have el := fun d => c_lateness (d := d) S C.1 I E J (show k < 6 by omega) (v := v)
            rw [B_111_43]
            simp (decide := true) (disch := (first | assumption | (simp only [Sh_setI, Sm_setI, Sh_setL, Sm_setL]; assumption) | omega)) only [n_Ole, show ¬ 6 ≤ k by omega, B_111_50, el, calledL, bI_True, bI_False, p_max, p_min, p_abs, Option.bind_some, Option.bind_none, Option.toList_some, Option.toList_none, List.cons_append, List.nil_append, bI_eq0, bI_ne0, bI_ne1, bI_eq1, bI_01, eq_self, true_or, or_true, and_true, true_and, false_and, and_false, false_or, or_false, ite_true, ite_false, if_true, if_false, not_true, not_false_iff, Classical.not_not, nem, ite_not, ne_eq]
            unfold lateF
            by_cases a : dueC (hI h) c k = -1
            · simp (decide := true) (disch := (first | assumption | (simp only [Sh_setI, Sm_setI, Sh_setL, Sm_setL]; assumption) | omega)) only [a, B_111_59, B_111_87, n_addO, ih, bI_True, bI_False, p_max, p_min, p_abs, Option.bind_some, Option.bind_none, Option.toList_some, Option.toList_none, List.cons_append, List.nil_append, bI_eq0, bI_ne0, bI_ne1, bI_eq1, bI_01, eq_self, true_or, or_true, and_true, true_and, false_and, and_false, false_or, or_false, ite_true, ite_false, if_true, if_false, not_true, not_false_iff, Classical.not_not, nem, ite_not, ne_eq]
            · simp (decide := true) (disch := (first | assumption | (simp only [Sh_setI, Sm_setI, Sh_setL, Sm_setL]; assumption) | omega)) only [a, B_111_59, bI_True, bI_False, p_max, p_min, p_abs, Option.bind_some, Option.bind_none, Option.toList_some, Option.toList_none, List.cons_append, List.nil_append, bI_eq0, bI_ne0, bI_ne1, bI_eq1, bI_01, eq_self, true_or, or_true, and_true, true_and, false_and, and_false, false_or, or_false, ite_true, ite_false, if_true, if_false, not_true, not_false_iff, Classical.not_not, nem, ite_not, ne_eq]
              have ac := abs_cond (x := ownF (hI h) c v - dueC (hI h) c k) hw.1 hw.2
              rw [show 0 - (ownF (hI h) c v - dueC (hI h) c k) = dueC (hI h) c k - ownF (hI h) c v by rw [Int32.zero_sub, Int32.neg_sub]] at ac
              change _ ↔ _ at ac
              rw [show timeF (hI h) c v - hI h 60 (yDr (hI h) c) - hI h 64 (ySh (hI h) c) = ownF (hI h) c v from rfl]
              by_cases a1 : ownF (hI h) c v - dueC (hI h) c k = 1000000000
              · have na : ¬ (ownF (hI h) c v - dueC (hI h) c k ≤ w ∧ dueC (hI h) c k - ownF (hI h) c v ≤ w) := fun z => (ac.mpr z).1 a1
                simp (decide := true) (disch := (first | assumption | (simp only [Sh_setI, Sm_setI, Sh_setL, Sm_setL]; assumption) | omega)) only [a1, B_111_87, n_addO, ih, bI_True, bI_False, p_max, p_min, p_abs, Option.bind_some, Option.bind_none, Option.toList_some, Option.toList_none, List.cons_append, List.nil_append, bI_eq0, bI_ne0, bI_ne1, bI_eq1, bI_01, eq_self, true_or, or_true, and_true, true_and, false_and, and_false, false_or, or_false, ite_true, ite_false, if_true, if_false, not_true, not_false_iff, Classical.not_not, nem, ite_not, ne_eq]
                rw [a1] at na
                simp (decide := true) (disch := (first | assumption | (simp only [Sh_setI, Sm_setI, Sh_setL, Sm_setL]; assumption) | omega)) only [na, bI_True, bI_False, p_max, p_min, p_abs, Option.bind_some, Option.bind_none, Option.toList_some, Option.toList_none, List.cons_append, List.nil_append, bI_eq0, bI_ne0, bI_ne1, bI_eq1, bI_01, eq_self, true_or, or_true, and_true, true_and, false_and, and_false, false_or, or_false, ite_true, ite_false, if_true, if_false, not_true, not_false_iff, Classical.not_not, nem, ite_not, ne_eq]
              · simp (decide := true) (disch := (first | assumption | (simp only [Sh_setI, Sm_setI, Sh_setL, Sm_setL]; assumption) | omega)) only [a1, B_111_69, B_111_74, bI_True, bI_False, p_max, p_min, p_abs, Option.bind_some, Option.bind_none, Option.toList_some, Option.toList_none, List.cons_append, List.nil_append, bI_eq0, bI_ne0, bI_ne1, bI_eq1, bI_01, eq_self, true_or, or_true, and_true, true_and, false_and, and_false, false_or, or_false, ite_true, ite_false, if_true, if_false, not_true, not_false_iff, Classical.not_not, nem, ite_not, ne_eq]
                rw [show 0 - (ownF (hI h) c v - dueC (hI h) c k) = dueC (hI h) c k - ownF (hI h) c v by rw [Int32.zero_sub, Int32.neg_sub]]
                by_cases a2 : (if 0 ≤ ownF (hI h) c v - dueC (hI h) c k then ownF (hI h) c v - dueC (hI h) c k else dueC (hI h) c k - ownF (hI h) c v) ≤ w
                · have na := ac.mp ⟨a1, a2⟩
                  rw [if_neg (by rw [nt_lt.symm, Classical.not_not]; exact a2), if_pos na]
                  simp (decide := true) (disch := (first | assumption | (simp only [Sh_setI, Sm_setI, Sh_setL, Sm_setL]; assumption) | omega)) only [B_111_78, B_111_87, n_addO, ih, bI_True, bI_False, p_max, p_min, p_abs, Option.bind_some, Option.bind_none, Option.toList_some, Option.toList_none, List.cons_append, List.nil_append, bI_eq0, bI_ne0, bI_ne1, bI_eq1, bI_01, eq_self, true_or, or_true, and_true, true_and, false_and, and_false, false_or, or_false, ite_true, ite_false, if_true, if_false, not_true, not_false_iff, Classical.not_not, nem, ite_not, ne_eq]
                · have na : ¬ (ownF (hI h) c v - dueC (hI h) c k ≤ w ∧ dueC (hI h) c k - ownF (hI h) c v ≤ w) := fun z => a2 (ac.mpr z).2
                  rw [if_pos (by rw [← nt_lt]; exact a2), if_neg na]
                  simp (decide := true) (disch := (first | assumption | (simp only [Sh_setI, Sm_setI, Sh_setL, Sm_setL]; assumption) | omega)) only [B_111_87, n_addO, ih, bI_True, bI_False, p_max, p_min, p_abs, Option.bind_some, Option.bind_none, Option.toList_some, Option.toList_none, List.cons_append, List.nil_append, bI_eq0, bI_ne0, bI_ne1, bI_eq1, bI_01, eq_self, true_or, or_true, and_true, true_and, false_and, and_false, false_or, or_false, ite_true, ite_false, if_true, if_false, not_true, not_false_iff, Classical.not_not, nem, ite_not, ne_eq]
        have ml : ∀ j k b a7, k + j = 6 → Ev (d + 12) 203 71 [vr (some 56), vi (nI c), vi w, vi v, vi b, vi (ownF (hI h) c v), vi (nI k), a7] [] h = some (some (vi (calledL (hI h) c w v j k b)), h) := by
          have e1 := fun d => m_farOf (d := d) T hc40 J
          have hf := farN_le J
          obtain ⟨-, -, ⟨s1, s2, s3⟩, -, -, ⟨z, hz, ez⟩, -⟩ := J
          intro j
          induction j with
          | zero =>
            intro k b a7 e
            simp (decide := true) (disch := (first | assumption | (simp only [Sh_setI, Sm_setI, Sh_setL, Sm_setL]; assumption) | omega)) only [B_203_71, n_Ole, show 6 ≤ k by omega, B_203_145, calledL, bI_True, bI_False, p_max, p_min, p_abs, Option.bind_some, Option.bind_none, Option.toList_some, Option.toList_none, List.cons_append, List.nil_append, bI_eq0, bI_ne0, bI_ne1, bI_eq1, bI_01, eq_self, true_or, or_true, and_true, true_and, false_and, and_false, false_or, or_false, ite_true, ite_false, if_true, if_false, not_true, not_false_iff, Classical.not_not, nem, ite_not, ne_eq]
          | succ j ih =>
            intro k b a7 e
            have e3 : ∀ d, Cl (d + 6) 151 [vr (some 56), vi (nI k), vi (nI (farN (hI h) c)), vi (nI z)] h = some (some (vi (dueC (hI h) c k)), h) := fun d => by
              rw [m_dueOf T (show hI h 56 1 = nI (yN (hI h)) from I.1.2.1.1) I.1.2.2 hf hz (show k < 6 by omega)]
              unfold dueC
              rw [ez]
            rw [B_203_71]
            simp (decide := true) (disch := (first | assumption | (simp only [Sh_setI, Sm_setI, Sh_setL, Sm_setL]; assumption) | omega)) only [n_Ole, show ¬ 6 ≤ k by omega, B_203_78, e1, B_203_86, n_ix, n_cl, s1, ez, T.kd (n := 56) (k := 11) rfl rfl, e3, calledL, bI_True, bI_False, p_max, p_min, p_abs, Option.bind_some, Option.bind_none, Option.toList_some, Option.toList_none, List.cons_append, List.nil_append, bI_eq0, bI_ne0, bI_ne1, bI_eq1, bI_01, eq_self, true_or, or_true, and_true, true_and, false_and, and_false, false_or, or_false, ite_true, ite_false, if_true, if_false, not_true, not_false_iff, Classical.not_not, nem, ite_not, ne_eq]
            by_cases a : dueC (hI h) c k = -1
            · simp (decide := true) (disch := (first | assumption | (simp only [Sh_setI, Sm_setI, Sh_setL, Sm_setL]; assumption) | omega)) only [B_203_100, a, B_203_135, B_203_136, n_addO, ih, Int32.or_zero, bI_True, bI_False, p_max, p_min, p_abs, Option.bind_some, Option.bind_none, Option.toList_some, Option.toList_none, List.cons_append, List.nil_append, bI_eq0, bI_ne0, bI_ne1, bI_eq1, bI_01, eq_self, true_or, or_true, and_true, true_and, false_and, and_false, false_or, or_false, ite_true, ite_false, if_true, if_false, not_true, not_false_iff, Classical.not_not, nem, ite_not, ne_eq]
            · by_cases a1 : ownF (hI h) c v - dueC (hI h) c k ≤ w
              · by_cases a2 : dueC (hI h) c k - ownF (hI h) c v ≤ w
                · simp (decide := true) (disch := (first | assumption | (simp only [Sh_setI, Sm_setI, Sh_setL, Sm_setL]; assumption) | omega)) only [B_203_100, a, B_203_110, B_203_119, ← nt_lt, a1, a2, B_203_128, B_203_136, n_addO, ih, bI_True, bI_False, p_max, p_min, p_abs, Option.bind_some, Option.bind_none, Option.toList_some, Option.toList_none, List.cons_append, List.nil_append, bI_eq0, bI_ne0, bI_ne1, bI_eq1, bI_01, eq_self, true_or, or_true, and_true, true_and, false_and, and_false, false_or, or_false, ite_true, ite_false, if_true, if_false, not_true, not_false_iff, Classical.not_not, nem, ite_not, ne_eq]
                · simp (decide := true) (disch := (first | assumption | (simp only [Sh_setI, Sm_setI, Sh_setL, Sm_setL]; assumption) | omega)) only [B_203_100, a, B_203_110, B_203_119, ← nt_lt, a1, a2, B_203_135, B_203_136, n_addO, ih, Int32.or_zero, bI_True, bI_False, p_max, p_min, p_abs, Option.bind_some, Option.bind_none, Option.toList_some, Option.toList_none, List.cons_append, List.nil_append, bI_eq0, bI_ne0, bI_ne1, bI_eq1, bI_01, eq_self, true_or, or_true, and_true, true_and, false_and, and_false, false_or, or_false, ite_true, ite_false, if_true, if_false, not_true, not_false_iff, Classical.not_not, nem, ite_not, ne_eq]
              · simp (decide := true) (disch := (first | assumption | (simp only [Sh_setI, Sm_setI, Sh_setL, Sm_setL]; assumption) | omega)) only [B_203_100, a, B_203_110, ← nt_lt, a1, B_203_135, B_203_136, n_addO, ih, Int32.or_zero, bI_True, bI_False, p_max, p_min, p_abs, Option.bind_some, Option.bind_none, Option.toList_some, Option.toList_none, List.cons_append, List.nil_append, bI_eq0, bI_ne0, bI_ne1, bI_eq1, bI_01, eq_self, true_or, or_true, and_true, true_and, false_and, and_false, false_or, or_false, ite_true, ite_false, if_true, if_false, not_true, not_false_iff, Classical.not_not, nem, ite_not, ne_eq]
        refine stp_same (v := vi (calledL (hI h) c w v 6 0 0)) R ?_ ?_
        · simp (decide := true) (disch := (first | assumption | (simp only [Sh_setI, Sm_setI, Sh_setL, Sm_setL]; assumption) | omega)) only [E_111, B_111_0, B_111_5, B_111_12, B_111_15, B_111_23, B_111_26, B_111_31, B_111_34, B_111_37, ec, E.2.1.1, reduceCtorEq, c_isIn, hw, c_isDay S, b1, hv, bI_True, bI_False, p_max, p_min, p_abs, Option.bind_some, Option.bind_none, Option.toList_some, Option.toList_none, List.cons_append, List.nil_append, bI_eq0, bI_ne0, bI_ne1, bI_eq1, bI_01, eq_self, true_or, or_true, and_true, true_and, false_and, and_false, false_or, or_false, ite_true, ite_false, if_true, if_false, not_true, not_false_iff, Classical.not_not, nem, ite_not, ne_eq]
          exact hl 6 0 0 _ rfl
        · have mt := fun d => m_timeOf (d := d) T hc40 (v := v)
          obtain ⟨-, ⟨d1, d2, d3⟩, ⟨s1, s2, s3⟩, -⟩ := J
          simp (decide := true) (disch := (first | assumption | (simp only [Sh_setI, Sm_setI, Sh_setL, Sm_setL]; assumption) | omega)) only [E_203, B_203_0, B_203_5, B_203_8, B_203_11, B_203_19, B_203_22, B_203_27, B_203_30, B_203_33, B_203_42, em, m_in, hw, m_isKnown T, hv, mt, n_ix, n_cl, d1, s1, bI_True, bI_False, p_max, p_min, p_abs, Option.bind_some, Option.bind_none, Option.toList_some, Option.toList_none, List.cons_append, List.nil_append, bI_eq0, bI_ne0, bI_ne1, bI_eq1, bI_01, eq_self, true_or, or_true, and_true, true_and, false_and, and_false, false_or, or_false, ite_true, ite_false, if_true, if_false, not_true, not_false_iff, Classical.not_not, nem, ite_not, ne_eq]
          exact ml 6 0 0 _ rfl
      · exact stp_same (v := vi (-2)) R (by simp (decide := true) (disch := (first | assumption | (simp only [Sh_setI, Sm_setI, Sh_setL, Sm_setL]; assumption) | omega)) only [E_111, B_111_0, B_111_5, B_111_12, B_111_15, B_111_23, B_111_26, B_111_31, B_111_34, B_111_37, B_111_50, B_111_59, B_111_69, B_111_74, B_111_78, B_111_87, B_111_93, ec, E.2.1.1, reduceCtorEq, c_isIn, hw, c_isDay S, b1, hv, bI_True, bI_False, p_max, p_min, p_abs, Option.bind_some, Option.bind_none, Option.toList_some, Option.toList_none, List.cons_append, List.nil_append, bI_eq0, bI_ne0, bI_ne1, bI_eq1, bI_01, eq_self, true_or, or_true, and_true, true_and, false_and, and_false, false_or, or_false, ite_true, ite_false, if_true, if_false, not_true, not_false_iff, Classical.not_not, nem, ite_not, ne_eq]) (by simp (decide := true) (disch := (first | assumption | (simp only [Sh_setI, Sm_setI, Sh_setL, Sm_setL]; assumption) | omega)) only [E_203, B_203_0, B_203_5, B_203_8, B_203_11, B_203_19, B_203_22, B_203_27, B_203_30, B_203_33, B_203_42, B_203_78, B_203_86, B_203_100, B_203_110, B_203_119, B_203_128, B_203_135, B_203_136, B_203_145, em, m_in, hw, m_isKnown T, hv, bI_True, bI_False, p_max, p_min, p_abs, Option.bind_some, Option.bind_none, Option.toList_some, Option.toList_none, List.cons_append, List.nil_append, bI_eq0, bI_ne0, bI_ne1, bI_eq1, bI_01, eq_self, true_or, or_true, and_true, true_and, false_and, and_false, false_or, or_false, ite_true, ite_false, if_true, if_false, not_true, not_false_iff, Classical.not_not, nem, ite_not, ne_eq])
    · exact stp_same (v := vi (-2)) R (by simp (decide := true) (disch := (first | assumption | (simp only [Sh_setI, Sm_setI, Sh_setL, Sm_setL]; assumption) | omega)) only [E_111, B_111_0, B_111_5, B_111_12, B_111_15, B_111_23, B_111_26, B_111_31, B_111_34, B_111_37, B_111_50, B_111_59, B_111_69, B_111_74, B_111_78, B_111_87, B_111_93, ec, E.2.1.1, reduceCtorEq, c_isIn, hw, bI_True, bI_False, p_max, p_min, p_abs, Option.bind_some, Option.bind_none, Option.toList_some, Option.toList_none, List.cons_append, List.nil_append, bI_eq0, bI_ne0, bI_ne1, bI_eq1, bI_01, eq_self, true_or, or_true, and_true, true_and, false_and, and_false, false_or, or_false, ite_true, ite_false, if_true, if_false, not_true, not_false_iff, Classical.not_not, nem, ite_not, ne_eq]) (by simp (decide := true) (disch := (first | assumption | (simp only [Sh_setI, Sm_setI, Sh_setL, Sm_setL]; assumption) | omega)) only [E_203, B_203_0, B_203_5, B_203_8, B_203_11, B_203_19, B_203_22, B_203_27, B_203_30, B_203_33, B_203_42, B_203_78, B_203_86, B_203_100, B_203_110, B_203_119, B_203_128, B_203_135, B_203_136, B_203_145, em, m_in, hw, bI_True, bI_False, p_max, p_min, p_abs, Option.bind_some, Option.bind_none, Option.toList_some, Option.toList_none, List.cons_append, List.nil_append, bI_eq0, bI_ne0, bI_ne1, bI_eq1, bI_01, eq_self, true_or, or_true, and_true, true_and, false_and, and_false, false_or, or_false, ite_true, ite_false, if_true, if_false, not_true, not_false_iff, Classical.not_not, nem, ite_not, ne_eq])
  · exact stp_same (v := vi (-5)) R (by simp (decide := true) (disch := (first | assumption | (simp only [Sh_setI, Sm_setI, Sh_setL, Sm_setL]; assumption) | omega)) only [E_111, B_111_0, B_111_5, B_111_12, B_111_15, B_111_23, B_111_26, B_111_31, B_111_34, B_111_37, B_111_50, B_111_59, B_111_69, B_111_74, B_111_78, B_111_87, B_111_93, c_cardNo S (x := c) (by rw [q1]; exact hc), bI_True, bI_False, p_max, p_min, p_abs, Option.bind_some, Option.bind_none, Option.toList_some, Option.toList_none, List.cons_append, List.nil_append, bI_eq0, bI_ne0, bI_ne1, bI_eq1, bI_01, eq_self, true_or, or_true, and_true, true_and, false_and, and_false, false_or, or_false, ite_true, ite_false, if_true, if_false, not_true, not_false_iff, Classical.not_not, nem, ite_not, ne_eq]) (by simp (decide := true) (disch := (first | assumption | (simp only [Sh_setI, Sm_setI, Sh_setL, Sm_setL]; assumption) | omega)) only [E_203, B_203_0, B_203_5, B_203_8, B_203_11, B_203_19, B_203_22, B_203_27, B_203_30, B_203_33, B_203_42, B_203_78, B_203_86, B_203_100, B_203_110, B_203_119, B_203_128, B_203_135, B_203_136, B_203_145, m_isCard T, hc, bI_True, bI_False, p_max, p_min, p_abs, Option.bind_some, Option.bind_none, Option.toList_some, Option.toList_none, List.cons_append, List.nil_append, bI_eq0, bI_ne0, bI_ne1, bI_eq1, bI_01, eq_self, true_or, or_true, and_true, true_and, false_and, and_false, false_or, or_false, ite_true, ite_false, if_true, if_false, not_true, not_false_iff, Classical.not_not, nem, ite_not, ne_eq])
theorem own_sz {m : am_M} {c : Nat} (J : Ci m c) {v : Int32} : -11000000 ≤ (ownF m c v).toInt ∧ (ownF m c v).toInt ≤ 10000098 := by
  obtain ⟨-, -, -, -, -, -, ⟨hr, hhr, eh⟩, ⟨r1, r2⟩, -, ⟨tt, htt, et⟩, ta⟩ := J
  have ht : ∃ t, t ≤ 9999999 ∧ timeF m c v = nI t := by
    unfold timeF
    split
    · rename_i w
      rcases ta with q | ⟨t, ht, q⟩
      · exact absurd q w.1
      · exact ⟨t, ht, q⟩
    · exact ⟨tt, htt, et⟩
  obtain ⟨t, ht, e⟩ := ht
  rw [Int32.le_iff_toInt_le] at r1 r2
  rw [show (-99 : Int32).toInt = -99 from rfl] at r1
  rw [show (99 : Int32).toInt = 99 from rfl] at r2
  unfold ownF
  rw [e, eh]
  have a1 : (nI t - m 60 (yDr m c)).toInt = t - (m 60 (yDr m c)).toInt := by
    rw [Int32.toInt_sub, nI_toInt (by omega)]
    exact Int.bmod_eq_of_le (by omega) (by omega)
  rw [Int32.toInt_sub, a1, nI_toInt (by omega), Int.bmod_eq_of_le (by omega) (by omega)]
  omega
theorem late_sz {m : am_M} {c k : Nat} (I : InvB m) (J : Ci m c) {v : Int32} : dueC m c k = -1 ∨ (-12000000 ≤ (ownF m c v - dueC m c k).toInt ∧ (ownF m c v - dueC m c k).toInt ≤ 10000098) := by
  have ho := own_sz J (v := v)
  have hf := farN_le J
  obtain ⟨z, hz, ez⟩ := J.2.2.2.2.2.1
  have hd := dueF_sz I.2.2 hf hz (k := k)
  unfold dueC
  rw [ez]
  rcases hd with q | ⟨y, q, hy⟩
  · exact Or.inl q
  · refine Or.inr ?_
    change dueF _ _ _ (yN m) _ _ _ = _ at q
    rw [q, Int32.toInt_sub, nI_toInt (by omega), Int.bmod_eq_of_le (by omega) (by omega)]
    omega
theorem late_never {m : am_M} {c k : Nat} (I : InvB m) (J : Ci m c) {v : Int32} : lateF m c k v = 1000000000 ↔ dueC m c k = -1 := by
  unfold lateF
  constructor
  · intro e
    rcases late_sz I J (k := k) (v := v) with q | q
    · exact q
    · by_cases w : dueC m c k = -1
      · exact w
      · rw [if_neg w] at e
        change ownF m c v - dueC m c k = _ at e
        rw [e, show (1000000000 : Int32).toInt = 1000000000 from rfl] at q
        omega
  · intro e; rw [if_pos e]
def strangeL (m : am_M) (v : Int32) : Nat → Nat → Int32 → Int32
  | 0, _, b => b
  | j + 1, c, b => strangeL m v j (c + 1) (if heardB m c v = true ∧ dueC m c (cl (m 65 c)) = -1 then b + 1 else b)
theorem s_strange (R : Rel h) {v : Int32} : Stq (d + 12) 112 204 [vi v] h := by
  obtain ⟨S, T, I, C, L⟩ := id R
  have q1 : hI h 1 6 = hI h 56 12 := C.2.2.2.1.1
  have q2 : hI h 56 12 = nI (yC (hI h)) := I.2.2.2.1.1.1
  have q3 : yC (hI h) ≤ 40 := I.2.2.2.1.1.2
  have b1 : hI h 1 7 = hI h 56 0 := C.1.1
  by_cases hv : 0 ≤ v ∧ v ≤ hI h 56 0
  · have hl : ∀ j c b a4, c + j = yC (hI h) → Ev (d + 12) 112 15 [vr (some 1), vi v, vi b, vi (nI c), a4] [] h = some (some (vi (strangeL (hI h) v j c b)), h) := by
      intro j
      induction j with
      | zero =>
        intro c b a4 e
        simp (decide := true) (disch := (first | assumption | (simp only [Sh_setI, Sm_setI, Sh_setL, Sm_setL]; assumption) | omega)) only [B_112_15, q1, q2, n_leT, B_112_66, strangeL, bI_True, bI_False, p_max, p_min, p_abs, Option.bind_some, Option.bind_none, Option.toList_some, Option.toList_none, List.cons_append, List.nil_append, bI_eq0, bI_ne0, bI_ne1, bI_eq1, bI_01, eq_self, true_or, or_true, and_true, true_and, false_and, and_false, false_or, or_false, ite_true, ite_false, if_true, if_false, not_true, not_false_iff, Classical.not_not, nem, ite_not, ne_eq]
      | succ j ih =>
        intro c b a4 e
        have hc : c < yC (hI h) := by omega
        obtain ⟨n, dn, sn, E⟩ := card_env I C hc
        have J := card_int I hc
        have ec := fun d => c_cardAt (d := d) S (q1.trans q2) q3 hc
        obtain ⟨kd, hkd', ekd⟩ := J.1
        have el := fun d => c_lateness (d := d) S C.1 I E J hkd' (v := v)
        have eh := fun d => c_isHeard (d := d) E (v := v)
        have ln := late_never I.1 J (k := kd) (v := v)
        rw [B_112_15 S]
        simp (decide := true) (disch := (first | assumption | (simp only [Sh_setI, Sm_setI, Sh_setL, Sm_setL]; assumption) | omega)) only [q1, q2, n_leF, B_112_23, ec, E.2.1.1, B_112_28, eh, B_112_36, strangeL, bI_True, bI_False, p_max, p_min, p_abs, Option.bind_some, Option.bind_none, Option.toList_some, Option.toList_none, List.cons_append, List.nil_append, bI_eq0, bI_ne0, bI_ne1, bI_eq1, bI_01, eq_self, true_or, or_true, and_true, true_and, false_and, and_false, false_or, or_false, ite_true, ite_false, if_true, if_false, not_true, not_false_iff, Classical.not_not, nem, ite_not, ne_eq]
        by_cases a : heardB (hI h) c v
        · simp (decide := true) (disch := (first | assumption | (simp only [Sh_setI, Sm_setI, Sh_setL, Sm_setL]; assumption) | omega)) only [a, B_112_39, E.2.1.2.1, E.2.2.1.1, ekd, el, B_112_51, cl, n_cl, bI_True, bI_False, p_max, p_min, p_abs, Option.bind_some, Option.bind_none, Option.toList_some, Option.toList_none, List.cons_append, List.nil_append, bI_eq0, bI_ne0, bI_ne1, bI_eq1, bI_01, eq_self, true_or, or_true, and_true, true_and, false_and, and_false, false_or, or_false, ite_true, ite_false, if_true, if_false, not_true, not_false_iff, Classical.not_not, nem, ite_not, ne_eq]
          by_cases w : dueC (hI h) c kd = -1
          · simp (decide := true) (disch := (first | assumption | (simp only [Sh_setI, Sm_setI, Sh_setL, Sm_setL]; assumption) | omega)) only [ln.mpr w, w, B_112_57, B_112_60, n_addO, ih, bI_True, bI_False, p_max, p_min, p_abs, Option.bind_some, Option.bind_none, Option.toList_some, Option.toList_none, List.cons_append, List.nil_append, bI_eq0, bI_ne0, bI_ne1, bI_eq1, bI_01, eq_self, true_or, or_true, and_true, true_and, false_and, and_false, false_or, or_false, ite_true, ite_false, if_true, if_false, not_true, not_false_iff, Classical.not_not, nem, ite_not, ne_eq]
          · simp (decide := true) (disch := (first | assumption | (simp only [Sh_setI, Sm_setI, Sh_setL, Sm_setL]; assumption) | omega)) only [show ¬ lateF (hI h) c kd v = 1000000000 from fun q => w (ln.mp q), w, B_112_60, n_addO, ih, bI_True, bI_False, p_max, p_min, p_abs, Option.bind_some, Option.bind_none, Option.toList_some, Option.toList_none, List.cons_append, List.nil_append, bI_eq0, bI_ne0, bI_ne1, bI_eq1, bI_01, eq_self, true_or, or_true, and_true, true_and, false_and, and_false, false_or, or_false, ite_true, ite_false, if_true, if_false, not_true, not_false_iff, Classical.not_not, nem, ite_not, ne_eq]
        · simp (decide := true) (disch := (first | assumption | (simp only [Sh_setI, Sm_setI, Sh_setL, Sm_setL]; assumption) | omega)) only [a, B_112_60, n_addO, ih, bI_True, bI_False, p_max, p_min, p_abs, Option.bind_some, Option.bind_none, Option.toList_some, Option.toList_none, List.cons_append, List.nil_append, bI_eq0, bI_ne0, bI_ne1, bI_eq1, bI_01, eq_self, true_or, or_true, and_true, true_and, false_and, and_false, false_or, or_false, ite_true, ite_false, if_true, if_false, not_true, not_false_iff, Classical.not_not, nem, ite_not, ne_eq]
    have ml : ∀ j c b, c + j = yC (hI h) → Ev (d + 12) 204 15 [vr (some 56), vi v, vi b, vi (nI c)] [] h = some (some (vi (strangeL (hI h) v j c b)), h) := by
      intro j
      induction j with
      | zero =>
        intro c b e
        simp (decide := true) (disch := (first | assumption | (simp only [Sh_setI, Sm_setI, Sh_setL, Sm_setL]; assumption) | omega)) only [B_204_15, q2, n_leT, B_204_55, strangeL, bI_True, bI_False, p_max, p_min, p_abs, Option.bind_some, Option.bind_none, Option.toList_some, Option.toList_none, List.cons_append, List.nil_append, bI_eq0, bI_ne0, bI_ne1, bI_eq1, bI_01, eq_self, true_or, or_true, and_true, true_and, false_and, and_false, false_or, or_false, ite_true, ite_false, if_true, if_false, not_true, not_false_iff, Classical.not_not, nem, ite_not, ne_eq]
      | succ j ih =>
        intro c b e
        have hc : c < yC (hI h) := by omega
        have J := card_int I hc
        have el := fun d => m_dueOfCard (d := d) T I (show c < 40 by omega) J
        have eh := fun d => m_isHeard (d := d) T (show c < 40 by omega) (v := v)
        rw [B_204_15 T]
        simp (decide := true) (disch := (first | assumption | (simp only [Sh_setI, Sm_setI, Sh_setL, Sm_setL]; assumption) | omega)) only [q2, n_leF, B_204_23, eh, B_204_30, strangeL, bI_True, bI_False, p_max, p_min, p_abs, Option.bind_some, Option.bind_none, Option.toList_some, Option.toList_none, List.cons_append, List.nil_append, bI_eq0, bI_ne0, bI_ne1, bI_eq1, bI_01, eq_self, true_or, or_true, and_true, true_and, false_and, and_false, false_or, or_false, ite_true, ite_false, if_true, if_false, not_true, not_false_iff, Classical.not_not, nem, ite_not, ne_eq]
        by_cases a : heardB (hI h) c v
        · simp (decide := true) (disch := (first | assumption | (simp only [Sh_setI, Sm_setI, Sh_setL, Sm_setL]; assumption) | omega)) only [a, B_204_33, el, B_204_38, bI_True, bI_False, p_max, p_min, p_abs, Option.bind_some, Option.bind_none, Option.toList_some, Option.toList_none, List.cons_append, List.nil_append, bI_eq0, bI_ne0, bI_ne1, bI_eq1, bI_01, eq_self, true_or, or_true, and_true, true_and, false_and, and_false, false_or, or_false, ite_true, ite_false, if_true, if_false, not_true, not_false_iff, Classical.not_not, nem, ite_not, ne_eq]
          by_cases w : dueC (hI h) c (cl (hI h 65 c)) = -1
          · simp (decide := true) (disch := (first | assumption | (simp only [Sh_setI, Sm_setI, Sh_setL, Sm_setL]; assumption) | omega)) only [w, B_204_42, B_204_47, n_addO, ih, bI_True, bI_False, p_max, p_min, p_abs, Option.bind_some, Option.bind_none, Option.toList_some, Option.toList_none, List.cons_append, List.nil_append, bI_eq0, bI_ne0, bI_ne1, bI_eq1, bI_01, eq_self, true_or, or_true, and_true, true_and, false_and, and_false, false_or, or_false, ite_true, ite_false, if_true, if_false, not_true, not_false_iff, Classical.not_not, nem, ite_not, ne_eq]
          · simp (decide := true) (disch := (first | assumption | (simp only [Sh_setI, Sm_setI, Sh_setL, Sm_setL]; assumption) | omega)) only [w, B_204_46, B_204_47, n_addO, ih, Int32.add_zero, bI_True, bI_False, p_max, p_min, p_abs, Option.bind_some, Option.bind_none, Option.toList_some, Option.toList_none, List.cons_append, List.nil_append, bI_eq0, bI_ne0, bI_ne1, bI_eq1, bI_01, eq_self, true_or, or_true, and_true, true_and, false_and, and_false, false_or, or_false, ite_true, ite_false, if_true, if_false, not_true, not_false_iff, Classical.not_not, nem, ite_not, ne_eq]
        · simp (decide := true) (disch := (first | assumption | (simp only [Sh_setI, Sm_setI, Sh_setL, Sm_setL]; assumption) | omega)) only [a, B_204_46, B_204_47, n_addO, ih, Int32.add_zero, bI_True, bI_False, p_max, p_min, p_abs, Option.bind_some, Option.bind_none, Option.toList_some, Option.toList_none, List.cons_append, List.nil_append, bI_eq0, bI_ne0, bI_ne1, bI_eq1, bI_01, eq_self, true_or, or_true, and_true, true_and, false_and, and_false, false_or, or_false, ite_true, ite_false, if_true, if_false, not_true, not_false_iff, Classical.not_not, nem, ite_not, ne_eq]
    refine stp_same (v := vi (strangeL (hI h) v (yC (hI h)) 0 0)) R ?_ ?_
    · simp (decide := true) (disch := (first | assumption | (simp only [Sh_setI, Sm_setI, Sh_setL, Sm_setL]; assumption) | omega)) only [E_112, B_112_0, B_112_5, B_112_11, c_isDay S, b1, hv, bI_True, bI_False, p_max, p_min, p_abs, Option.bind_some, Option.bind_none, Option.toList_some, Option.toList_none, List.cons_append, List.nil_append, bI_eq0, bI_ne0, bI_ne1, bI_eq1, bI_01, eq_self, true_or, or_true, and_true, true_and, false_and, and_false, false_or, or_false, ite_true, ite_false, if_true, if_false, not_true, not_false_iff, Classical.not_not, nem, ite_not, ne_eq]
      exact hl _ 0 0 _ (Nat.zero_add _)
    · simp (decide := true) (disch := (first | assumption | (simp only [Sh_setI, Sm_setI, Sh_setL, Sm_setL]; assumption) | omega)) only [E_204, B_204_0, B_204_5, B_204_11, m_isKnown T, hv, bI_True, bI_False, p_max, p_min, p_abs, Option.bind_some, Option.bind_none, Option.toList_some, Option.toList_none, List.cons_append, List.nil_append, bI_eq0, bI_ne0, bI_ne1, bI_eq1, bI_01, eq_self, true_or, or_true, and_true, true_and, false_and, and_false, false_or, or_false, ite_true, ite_false, if_true, if_false, not_true, not_false_iff, Classical.not_not, nem, ite_not, ne_eq]
      exact ml _ 0 0 (Nat.zero_add _)
  · exact stp_same (v := vi (-2)) R (by simp (decide := true) (disch := (first | assumption | (simp only [Sh_setI, Sm_setI, Sh_setL, Sm_setL]; assumption) | omega)) only [E_112, B_112_0, B_112_5, B_112_8, c_isDay S, b1, hv, bI_True, bI_False, p_max, p_min, p_abs, Option.bind_some, Option.bind_none, Option.toList_some, Option.toList_none, List.cons_append, List.nil_append, bI_eq0, bI_ne0, bI_ne1, bI_eq1, bI_01, eq_self, true_or, or_true, and_true, true_and, false_and, and_false, false_or, or_false, ite_true, ite_false, if_true, if_false, not_true, not_false_iff, Classical.not_not, nem, ite_not, ne_eq]) (by simp (decide := true) (disch := (first | assumption | (simp only [Sh_setI, Sm_setI, Sh_setL, Sm_setL]; assumption) | omega)) only [E_204, B_204_0, B_204_5, B_204_8, m_isKnown T, hv, bI_True, bI_False, p_max, p_min, p_abs, Option.bind_some, Option.bind_none, Option.toList_some, Option.toList_none, List.cons_append, List.nil_append, bI_eq0, bI_ne0, bI_ne1, bI_eq1, bI_01, eq_self, true_or, or_true, and_true, true_and, false_and, and_false, false_or, or_false, ite_true, ite_false, if_true, if_false, not_true, not_false_iff, Classical.not_not, nem, ite_not, ne_eq])
end CALLS6
