/-! copy -/
section COPY
variable {d : Nat} {h : am_H}
theorem m_cpA {A B N : Nat} {g : Nat → Int32} (hAB : B ≤ A) (hA : A + N ≤ 160) (hB : B + N ≤ 160) {a1 a2 a3 a4 : Int32} : ∀ j k h' a9, k + j = N → Sm h' → (∀ q, hI h' 84 q = if B ≤ q ∧ q < B + k then g (A + (q - B)) else g q) → ∃ h1, Ev (d + 6) 214 147 [vr (some 56), vi a1, vi a2, vi a3, vi a4, vi (nI N), vi (nI A), vi (nI B), vi (nI k), a9] [] h' = some (some (vi (nI N)), h1) ∧ Fi (fun a => a = 84) h' h1 ∧ ∀ q, hI h1 84 q = if B ≤ q ∧ q < B + N then g (A + (q - B)) else g q := by
  intro j
  induction j with
  | zero =>
    intro k h' a9 e T hq
    refine ⟨h', ?_, Fi.rf, fun q => by rw [hq, show k = N by omega]⟩
    rw [show k = N by omega]
    simp (decide := true) (disch := (first | assumption | (simp only [Sh_setI, Sm_setI, Sh_setL, Sm_setL]; assumption) | omega)) only [B_214_147, n_leT, B_214_201, bI_True, bI_False, p_max, p_min, p_abs, Option.bind_some, Option.bind_none, Option.toList_some, Option.toList_none, List.cons_append, List.nil_append, bI_eq0, bI_ne0, bI_ne1, bI_eq1, bI_01, eq_self, true_or, or_true, and_true, true_and, false_and, and_false, false_or, or_false, ite_true, ite_false, if_true, if_false, not_true, not_false_iff, Classical.not_not, nem, ite_not, ne_eq]
  | succ j ih =>
    intro k h' a9 e T hq
    obtain ⟨h1, e1, F1, f⟩ := ih (k + 1) (setI h' 84 (B + k) (g (A + k))) (vi (nI k)) (by omega) T.si (fun q => by
      rw [hI_eq, hq]
      by_cases w : q = B + k
      · rw [if_pos w, if_pos (by omega), w, show A + (B + k - B) = A + k by omega]
      · rw [if_neg w]
        by_cases z : B ≤ q ∧ q < B + k
        · rw [if_pos z, if_pos (by omega)]
        · rw [if_neg z, if_neg (by omega)])
    refine ⟨h1, ?_, Fi.tr (Fi.si (P := fun a => a = 84) Fi.rf rfl) F1, f⟩
    rw [B_214_147]
    have eg : hI h' 84 (A + k) = g (A + k) := by rw [hq, if_neg (by omega)]
    simp (decide := true) (disch := (first | assumption | (simp only [Sh_setI, Sm_setI, Sh_setL, Sm_setL]; assumption) | omega)) only [n_leF, B_214_154, n_leT, B_214_171, B_214_173, n_add, n_ix, n_cl, eg, n_addO, bI_True, bI_False, p_max, p_min, p_abs, Option.bind_some, Option.bind_none, Option.toList_some, Option.toList_none, List.cons_append, List.nil_append, bI_eq0, bI_ne0, bI_ne1, bI_eq1, bI_01, eq_self, true_or, or_true, and_true, true_and, false_and, and_false, false_or, or_false, ite_true, ite_false, if_true, if_false, not_true, not_false_iff, Classical.not_not, nem, ite_not, ne_eq]
    exact e1
theorem m_cpD {A B N : Nat} {g : Nat → Int32} (hAB : A < B) (hA : A + N ≤ 160) (hB : B + N ≤ 160) {a1 a2 a3 a4 : Int32} : ∀ j k h' a9, k + j = N → Sm h' → (∀ q, hI h' 84 q = if B + (N - k) ≤ q ∧ q < B + N then g (A + (q - B)) else g q) → ∃ h1, Ev (d + 6) 214 147 [vr (some 56), vi a1, vi a2, vi a3, vi a4, vi (nI N), vi (nI A), vi (nI B), vi (nI k), a9] [] h' = some (some (vi (nI N)), h1) ∧ Fi (fun a => a = 84) h' h1 ∧ ∀ q, hI h1 84 q = if B ≤ q ∧ q < B + N then g (A + (q - B)) else g q := by
  intro j
  induction j with
  | zero =>
    intro k h' a9 e T hq
    refine ⟨h', ?_, Fi.rf, fun q => by rw [hq, show B + (N - k) = B by omega]⟩
    rw [show k = N by omega]
    simp (decide := true) (disch := (first | assumption | (simp only [Sh_setI, Sm_setI, Sh_setL, Sm_setL]; assumption) | omega)) only [B_214_147, n_leT, B_214_201, bI_True, bI_False, p_max, p_min, p_abs, Option.bind_some, Option.bind_none, Option.toList_some, Option.toList_none, List.cons_append, List.nil_append, bI_eq0, bI_ne0, bI_ne1, bI_eq1, bI_01, eq_self, true_or, or_true, and_true, true_and, false_and, and_false, false_or, or_false, ite_true, ite_false, if_true, if_false, not_true, not_false_iff, Classical.not_not, nem, ite_not, ne_eq]
  | succ j ih =>
    intro k h' a9 e T hq
    obtain ⟨h1, e1, F1, f⟩ := ih (k + 1) (setI h' 84 (B + (N - 1 - k)) (g (A + (N - 1 - k)))) (vi (nI (N - 1 - k))) (by omega) T.si (fun q => by
      rw [hI_eq, hq]
      by_cases w : q = B + (N - 1 - k)
      · rw [if_pos w, if_pos (by omega), w, show A + (B + (N - 1 - k) - B) = A + (N - 1 - k) by omega]
      · rw [if_neg w]
        by_cases z : B + (N - k) ≤ q ∧ q < B + N
        · rw [if_pos z, if_pos (by omega)]
        · rw [if_neg z, if_neg (by omega)])
    refine ⟨h1, ?_, Fi.tr (Fi.si (P := fun a => a = 84) Fi.rf rfl) F1, f⟩
    rw [B_214_147]
    have eg : hI h' 84 (A + (N - 1 - k)) = g (A + (N - 1 - k)) := by rw [hq, if_neg (by omega)]
    simp (decide := true) (disch := (first | assumption | (simp only [Sh_setI, Sm_setI, Sh_setL, Sm_setL]; assumption) | omega)) only [n_leF, B_214_154, B_214_161, n_subO, n_sub, B_214_173, n_add, n_ix, n_cl, eg, n_addO, bI_True, bI_False, p_max, p_min, p_abs, Option.bind_some, Option.bind_none, Option.toList_some, Option.toList_none, List.cons_append, List.nil_append, bI_eq0, bI_ne0, bI_ne1, bI_eq1, bI_01, eq_self, true_or, or_true, and_true, true_and, false_and, and_false, false_or, or_false, ite_true, ite_false, if_true, if_false, not_true, not_false_iff, Classical.not_not, nem, ite_not, ne_eq]
    exact e1
theorem m_cp {A B N : Nat} (hA : A + N ≤ 160) (hB : B + N ≤ 160) {a1 a2 a3 a4 : Int32} (T : Sm h) {a9 : am_V} : ∃ h1, Ev (d + 6) 214 147 [vr (some 56), vi a1, vi a2, vi a3, vi a4, vi (nI N), vi (nI A), vi (nI B), vi 0, a9] [] h = some (some (vi (nI N)), h1) ∧ Fi (fun a => a = 84) h h1 ∧ ∀ q, hI h1 84 q = if B ≤ q ∧ q < B + N then hI h 84 (A + (q - B)) else hI h 84 q := by
  by_cases w : A < B
  · exact m_cpD w hA hB N 0 h a9 (Nat.zero_add N) T (fun q => by rw [if_neg (by omega)])
  · exact m_cpA (by omega) hA hB N 0 h a9 (Nat.zero_add N) T (fun q => by rw [if_neg (by omega)])
theorem nn_of (x : Int32) : x < 0 ∨ ∃ k, k < 2147483648 ∧ x = nI k := by
  by_cases w : x < 0
  · exact Or.inl w
  · exact Or.inr (nI_of w)
theorem nI_sub_le {z k a : Nat} (hz : z ≤ 40) (hk : k ≤ z) (ha : a < 2147483648) : (nI a ≤ nI z - nI k) = (a + k ≤ z) := by
  rw [n_sub hk, n_le ha (by omega)]
  exact propext (by omega)
theorem s_copy (R : Rel h) {x i y j n : Int32} : Stq (d + 9) 140 214 [vi x, vi i, vi y, vi j, vi n] h := by
  obtain ⟨S, T, I, C, L⟩ := id R
  rcases in_M x 3 (M := 3) rfl (by decide) with ⟨s, hs3, rfl⟩ | hx
  · have hs : s < 4 := by omega
    obtain ⟨p1, p2, p3, p4, p5⟩ := sh_s S hs
    obtain ⟨a1, a2, a3⟩ := C.2.2.2.2.2.2.1 s hs
    obtain ⟨i1, ⟨z1, z2⟩, i3⟩ := I.2.2.2.2.2.2 s hs
    generalize hZ : cl (hI h 83 s) = z at z1 z2
    rcases in_M y 3 (M := 3) rfl (by decide) with ⟨o, ho3, rfl⟩ | hy
    · have ho : o < 4 := by omega
      obtain ⟨r1, r2, r3, r4, r5⟩ := sh_s S ho
      obtain ⟨b1, b2, b3⟩ := C.2.2.2.2.2.2.1 o ho
      obtain ⟨j1, ⟨w1, w2⟩, j3⟩ := I.2.2.2.2.2.2 o ho
      generalize hW : cl (hI h 83 o) = w at w1 w2
      have cs := fun d => c_sheetAt (d := d) S hs
      have co := fun d => c_sheetAt (d := d) S ho
      by_cases hms : hI h 82 s = -1
      · exact stp_same (v := vi (-11)) R (by simp (decide := true) (disch := (first | assumption | (simp only [Sh_setI, Sm_setI, Sh_setL, Sm_setL]; assumption) | omega)) only [E_140, B_140_0, B_140_5, B_140_12, B_140_19, B_140_27, B_140_32, B_140_43, cs, co, reduceCtorEq, p2, c_isMissing p2, a1, hms, bI_True, bI_False, p_max, p_min, p_abs, Option.bind_some, Option.bind_none, Option.toList_some, Option.toList_none, List.cons_append, List.nil_append, bI_eq0, bI_ne0, bI_ne1, bI_eq1, bI_01, eq_self, true_or, or_true, and_true, true_and, false_and, and_false, false_or, or_false, ite_true, ite_false, if_true, if_false, not_true, not_false_iff, Classical.not_not, nem, ite_not, ne_eq]) (by simp (decide := true) (disch := (first | assumption | (simp only [Sh_setI, Sm_setI, Sh_setL, Sm_setL]; assumption) | omega)) only [E_214, B_214_0, B_214_6, B_214_9, B_214_15, B_214_21, B_214_41, m_in, n_leO, n_Ole, Nat.zero_le, hs3, ho3, n_ix, n_cl, hms, bI_True, bI_False, p_max, p_min, p_abs, Option.bind_some, Option.bind_none, Option.toList_some, Option.toList_none, List.cons_append, List.nil_append, bI_eq0, bI_ne0, bI_ne1, bI_eq1, bI_01, eq_self, true_or, or_true, and_true, true_and, false_and, and_false, false_or, or_false, ite_true, ite_false, if_true, if_false, not_true, not_false_iff, Classical.not_not, nem, ite_not, ne_eq])
      by_cases hmo : hI h 82 o = -1
      · exact stp_same (v := vi (-11)) R (by simp (decide := true) (disch := (first | assumption | (simp only [Sh_setI, Sm_setI, Sh_setL, Sm_setL]; assumption) | omega)) only [E_140, B_140_0, B_140_5, B_140_12, B_140_19, B_140_27, B_140_32, B_140_35, B_140_40, B_140_43, cs, co, reduceCtorEq, p2, r2, c_isMissing p2, c_isMissing r2, a1, b1, hms, hmo, bI_True, bI_False, p_max, p_min, p_abs, Option.bind_some, Option.bind_none, Option.toList_some, Option.toList_none, List.cons_append, List.nil_append, bI_eq0, bI_ne0, bI_ne1, bI_eq1, bI_01, eq_self, true_or, or_true, and_true, true_and, false_and, and_false, false_or, or_false, ite_true, ite_false, if_true, if_false, not_true, not_false_iff, Classical.not_not, nem, ite_not, ne_eq]) (by simp (decide := true) (disch := (first | assumption | (simp only [Sh_setI, Sm_setI, Sh_setL, Sm_setL]; assumption) | omega)) only [E_214, B_214_0, B_214_6, B_214_9, B_214_15, B_214_21, B_214_31, B_214_41, m_in, n_leO, n_Ole, Nat.zero_le, hs3, ho3, n_ix, n_cl, hms, hmo, bI_True, bI_False, p_max, p_min, p_abs, Option.bind_some, Option.bind_none, Option.toList_some, Option.toList_none, List.cons_append, List.nil_append, bI_eq0, bI_ne0, bI_ne1, bI_eq1, bI_01, eq_self, true_or, or_true, and_true, true_and, false_and, and_false, false_or, or_false, ite_true, ite_false, if_true, if_false, not_true, not_false_iff, Classical.not_not, nem, ite_not, ne_eq])
      by_cases hso : hI h 82 s = hI h 82 o
      · have hmo' : ¬ hI h 82 o = -1 := hmo
        have pre : ∀ d, Cl (d + 9) 140 [vr (some 1), vi (nI s), vi i, vi (nI o), vi j, vi n] h = Ev (d + 9) 140 62 [vr (some 1), vi (nI s), vi i, vi (nI o), vi j, vi n, vr (some (45 + 2 * s)), vr (some (45 + 2 * o))] [] h := fun d => by
          simp (decide := true) (disch := (first | assumption | (simp only [Sh_setI, Sm_setI, Sh_setL, Sm_setL]; assumption) | omega)) only [E_140, B_140_0, B_140_5, B_140_12, B_140_19, B_140_27, B_140_32, B_140_35, B_140_40, B_140_46, cs, co, reduceCtorEq, p2, r2, c_isMissing p2, c_isMissing r2, a1, b1, hso, hmo, bI_True, bI_False, p_max, p_min, p_abs, Option.bind_some, Option.bind_none, Option.toList_some, Option.toList_none, List.cons_append, List.nil_append, bI_eq0, bI_ne0, bI_ne1, bI_eq1, bI_01, eq_self, true_or, or_true, and_true, true_and, false_and, and_false, false_or, or_false, ite_true, ite_false, if_true, if_false, not_true, not_false_iff, Classical.not_not, nem, ite_not, ne_eq]
        have prm : ∀ d, Cl (d + 9) 214 [vr (some 56), vi (nI s), vi i, vi (nI o), vi j, vi n] h = Ev (d + 9) 214 62 [vr (some 56), vi (nI s), vi i, vi (nI o), vi j, vi n, vu, vu, vu, vu] [] h := fun d => by
          simp (decide := true) (disch := (first | assumption | (simp only [Sh_setI, Sm_setI, Sh_setL, Sm_setL]; assumption) | omega)) only [E_214, B_214_0, B_214_6, B_214_9, B_214_15, B_214_21, B_214_31, B_214_44, m_in, n_leO, n_Ole, Nat.zero_le, hs3, ho3, n_ix, n_cl, hso, hmo, bI_True, bI_False, p_max, p_min, p_abs, Option.bind_some, Option.bind_none, Option.toList_some, Option.toList_none, List.cons_append, List.nil_append, bI_eq0, bI_ne0, bI_ne1, bI_eq1, bI_01, eq_self, true_or, or_true, and_true, true_and, false_and, and_false, false_or, or_false, ite_true, ite_false, if_true, if_false, not_true, not_false_iff, Classical.not_not, nem, ite_not, ne_eq]
        have bad1 : ¬ (0 ≤ i ∧ 0 ≤ n ∧ n ≤ nI z ∧ i ≤ nI z - n) → ∀ d, Cl (d + 9) 140 [vr (some 1), vi (nI s), vi i, vi (nI o), vi j, vi n] h = some (some (vi (-12)), h) := fun q d => by
          rw [pre d]
          simp (decide := true) (disch := (first | assumption | (simp only [Sh_setI, Sm_setI, Sh_setL, Sm_setL]; assumption) | omega)) only [B_140_62, B_140_70, B_140_85, p2, c_holds p2, a2, z1, q, bI_True, bI_False, p_max, p_min, p_abs, Option.bind_some, Option.bind_none, Option.toList_some, Option.toList_none, List.cons_append, List.nil_append, bI_eq0, bI_ne0, bI_ne1, bI_eq1, bI_01, eq_self, true_or, or_true, and_true, true_and, false_and, and_false, false_or, or_false, ite_true, ite_false, if_true, if_false, not_true, not_false_iff, Classical.not_not, nem, ite_not, ne_eq]
        have bad2 : ¬ (0 ≤ j ∧ 0 ≤ n ∧ n ≤ nI w ∧ j ≤ nI w - n) → ∀ d, Cl (d + 9) 140 [vr (some 1), vi (nI s), vi i, vi (nI o), vi j, vi n] h = some (some (vi (-12)), h) := fun q d => by
          by_cases q1 : 0 ≤ i ∧ 0 ≤ n ∧ n ≤ nI z ∧ i ≤ nI z - n
          · rw [pre d]
            simp (decide := true) (disch := (first | assumption | (simp only [Sh_setI, Sm_setI, Sh_setL, Sm_setL]; assumption) | omega)) only [B_140_62, B_140_70, p2, c_holds p2, a2, z1, q1, bI_True, bI_False, p_max, p_min, p_abs, Option.bind_some, Option.bind_none, Option.toList_some, Option.toList_none, List.cons_append, List.nil_append, bI_eq0, bI_ne0, bI_ne1, bI_eq1, bI_01, eq_self, true_or, or_true, and_true, true_and, false_and, and_false, false_or, or_false, ite_true, ite_false, if_true, if_false, not_true, not_false_iff, Classical.not_not, nem, ite_not, ne_eq]
            simp (decide := true) (disch := (first | assumption | (simp only [Sh_setI, Sm_setI, Sh_setL, Sm_setL]; assumption) | omega)) only [B_140_73, B_140_82, B_140_85, r2, c_holds r2, b2, w1, q, bI_True, bI_False, p_max, p_min, p_abs, Option.bind_some, Option.bind_none, Option.toList_some, Option.toList_none, List.cons_append, List.nil_append, bI_eq0, bI_ne0, bI_ne1, bI_eq1, bI_01, eq_self, true_or, or_true, and_true, true_and, false_and, and_false, false_or, or_false, ite_true, ite_false, if_true, if_false, not_true, not_false_iff, Classical.not_not, nem, ite_not, ne_eq]
          · exact bad1 q1 d
        rcases nn_of n with hn | ⟨N, hN, rfl⟩
        · exact stp_same (v := vi (-12)) R (bad1 (fun q => by have q' := q.2.1; rw [← nt_le] at q'; exact q' hn) _) (by rw [prm]; simp (decide := true) (disch := (first | assumption | (simp only [Sh_setI, Sm_setI, Sh_setL, Sm_setL]; assumption) | omega)) only [B_214_62, B_214_124, hn, bI_True, bI_False, p_max, p_min, p_abs, Option.bind_some, Option.bind_none, Option.toList_some, Option.toList_none, List.cons_append, List.nil_append, bI_eq0, bI_ne0, bI_ne1, bI_eq1, bI_01, eq_self, true_or, or_true, and_true, true_and, false_and, and_false, false_or, or_false, ite_true, ite_false, if_true, if_false, not_true, not_false_iff, Classical.not_not, nem, ite_not, ne_eq])
        have n0 : (nI N < 0) = False := eq_false (nI_pos hN)
        rcases nn_of i with hi | ⟨a, ha, rfl⟩
        · exact stp_same (v := vi (-12)) R (bad1 (fun q => by have q' := q.1; rw [← nt_le] at q'; exact q' hi) _) (by rw [prm]; simp (decide := true) (disch := (first | assumption | (simp only [Sh_setI, Sm_setI, Sh_setL, Sm_setL]; assumption) | omega)) only [B_214_62, B_214_67, B_214_124, n0, hi, bI_True, bI_False, p_max, p_min, p_abs, Option.bind_some, Option.bind_none, Option.toList_some, Option.toList_none, List.cons_append, List.nil_append, bI_eq0, bI_ne0, bI_ne1, bI_eq1, bI_01, eq_self, true_or, or_true, and_true, true_and, false_and, and_false, false_or, or_false, ite_true, ite_false, if_true, if_false, not_true, not_false_iff, Classical.not_not, nem, ite_not, ne_eq])
        have a0 : (nI a < 0) = False := eq_false (nI_pos ha)
        rcases nn_of j with hj | ⟨b, hb, rfl⟩
        · exact stp_same (v := vi (-12)) R (bad2 (fun q => by have q' := q.1; rw [← nt_le] at q'; exact q' hj) _) (by rw [prm]; simp (decide := true) (disch := (first | assumption | (simp only [Sh_setI, Sm_setI, Sh_setL, Sm_setL]; assumption) | omega)) only [B_214_62, B_214_67, B_214_71, B_214_124, n0, a0, hj, bI_True, bI_False, p_max, p_min, p_abs, Option.bind_some, Option.bind_none, Option.toList_some, Option.toList_none, List.cons_append, List.nil_append, bI_eq0, bI_ne0, bI_ne1, bI_eq1, bI_01, eq_self, true_or, or_true, and_true, true_and, false_and, and_false, false_or, or_false, ite_true, ite_false, if_true, if_false, not_true, not_false_iff, Classical.not_not, nem, ite_not, ne_eq])
        have b0 : (nI b < 0) = False := eq_false (nI_pos hb)
        have hz31 : z < 2147483648 := by omega
        have hw31 : w < 2147483648 := by omega
        by_cases ca : a ≤ z
        · by_cases cb : b ≤ w
          · have ez : nI z - nI a = nI (z - a) := n_sub ca
            have ew : nI w - nI b = nI (w - b) := n_sub cb
            by_cases da : N ≤ z - a
            · by_cases db : N ≤ w - b
              · have g1 : 0 ≤ nI a ∧ 0 ≤ nI N ∧ nI N ≤ nI z ∧ nI a ≤ nI z - nI N := ⟨nI_pos' ha, nI_pos' hN, nI_le (by omega) hz31, of_eq_true ((nI_sub_le z2 (by omega) ha).trans (eq_true (by omega)))⟩
                have g2 : 0 ≤ nI b ∧ 0 ≤ nI N ∧ nI N ≤ nI w ∧ nI b ≤ nI w - nI N := ⟨nI_pos' hb, nI_pos' hN, nI_le (by omega) hw31, of_eq_true ((nI_sub_le w2 (by omega) hb).trans (eq_true (by omega)))⟩
                have FA : Fi (fun q => q = 46 + 2 * o) h (cpyI h (46 + 2 * s) a (46 + 2 * o) b N) := Fi.rf.cp rfl
                have TA : Sm (cpyI h (46 + 2 * s) a (46 + 2 * o) b N) := FA.sm T
                obtain ⟨h2, e2, F2, f2⟩ := m_cp (d := d + 3) (A := 40 * s + a) (B := 40 * o + b) (N := N) (by omega) (by omega) (a1 := nI s) (a2 := nI a) (a3 := nI o) (a4 := nI b) TA (a9 := vu)
                have s84 : ∀ q, hI (cpyI h (46 + 2 * s) a (46 + 2 * o) b N) 84 q = hI h 84 q := fun q => by rw [FA.2.2.2.2.2 84 (by omega)]
                have FF : Fi (fun q => q = 45 + 2 * o ∨ q = 46 + 2 * o ∨ q = 82 ∨ q = 83 ∨ q = 84) h h2 := Fi.tr (FA.mono (fun n q => Or.inr (Or.inl q))) (F2.mono (fun n q => by omega))
                have s56 : ∀ q, q ≠ 84 → q ≠ 46 + 2 * o → hI h2 q = hI h q := fun q q1 q2 => by rw [F2.2.2.2.2.2 q (by omega), FA.2.2.2.2.2 q (by omega)]
                refine stq_fi (v := vi (nI N)) (h1 := cpyI h (46 + 2 * s) a (46 + 2 * o) b N) R FF (fun n q => by omega) ?_ ?_ (sheet_fin I C ho (so := hI h 82 o) (sz := hI h 83 o) FF (fun q => ?_) (fun q => ?_) ?_ ?_ (fun y k hk => ?_) (fun q hq => ?_) ⟨j1, ⟨by rw [w1, cl, n_cl hw31], by rw [w1, cl, n_cl hw31]; exact w2⟩, j3⟩)
                · rw [pre]
                  simp (decide := true) (disch := (first | assumption | (simp only [Sh_setI, Sm_setI, Sh_setL, Sm_setL]; assumption) | omega)) only [B_140_62, B_140_70, p2, c_holds p2, a2, z1, g1, bI_True, bI_False, p_max, p_min, p_abs, Option.bind_some, Option.bind_none, Option.toList_some, Option.toList_none, List.cons_append, List.nil_append, bI_eq0, bI_ne0, bI_ne1, bI_eq1, bI_01, eq_self, true_or, or_true, and_true, true_and, false_and, and_false, false_or, or_false, ite_true, ite_false, if_true, if_false, not_true, not_false_iff, Classical.not_not, nem, ite_not, ne_eq]
                  simp (decide := true) (disch := (first | assumption | (simp only [Sh_setI, Sm_setI, Sh_setL, Sm_setL]; assumption) | omega)) only [B_140_73, B_140_82, r2, c_holds r2, b2, w1, g2, bI_True, bI_False, p_max, p_min, p_abs, Option.bind_some, Option.bind_none, Option.toList_some, Option.toList_none, List.cons_append, List.nil_append, bI_eq0, bI_ne0, bI_ne1, bI_eq1, bI_01, eq_self, true_or, or_true, and_true, true_and, false_and, and_false, false_or, or_false, ite_true, ite_false, if_true, if_false, not_true, not_false_iff, Classical.not_not, nem, ite_not, ne_eq]
                  simp (decide := true) (disch := (first | assumption | (simp only [Sh_setI, Sm_setI, Sh_setL, Sm_setL]; assumption) | omega)) only [B_140_88, B_140_106, p2, r2, p3, r3, p_cpy, p4, r4, p5, r5, n_cl, nI_pos' ha, nI_pos' hb, nI_pos' hN, show a + N ≤ 40 by omega, show b + N ≤ 40 by omega, bI_True, bI_False, p_max, p_min, p_abs, Option.bind_some, Option.bind_none, Option.toList_some, Option.toList_none, List.cons_append, List.nil_append, bI_eq0, bI_ne0, bI_ne1, bI_eq1, bI_01, eq_self, true_or, or_true, and_true, true_and, false_and, and_false, false_or, or_false, ite_true, ite_false, if_true, if_false, not_true, not_false_iff, Classical.not_not, nem, ite_not, ne_eq]
                · have prm' : Cl (d + 9) 214 [vr (some 56), vi (nI s), vi (nI a), vi (nI o), vi (nI b), vi (nI N)] (cpyI h (46 + 2 * s) a (46 + 2 * o) b N) = Ev (d + 9) 214 147 [vr (some 56), vi (nI s), vi (nI a), vi (nI o), vi (nI b), vi (nI N), vi (nI (40 * s + a)), vi (nI (40 * o + b)), vi 0, vu] [] (cpyI h (46 + 2 * s) a (46 + 2 * o) b N) := by
                    simp (decide := true) (disch := (first | assumption | (simp only [Sh_setI, Sm_setI, Sh_setL, Sm_setL]; assumption) | omega)) only [E_214, B_214_0, B_214_6, B_214_9, B_214_15, B_214_21, B_214_31, B_214_44, m_in, n_leO, n_Ole, Nat.zero_le, hs3, ho3, n_ix, n_cl, FA.2.2.2.2.2 82 (by omega), hso, hmo, bI_True, bI_False, p_max, p_min, p_abs, Option.bind_some, Option.bind_none, Option.toList_some, Option.toList_none, List.cons_append, List.nil_append, bI_eq0, bI_ne0, bI_ne1, bI_eq1, bI_01, eq_self, true_or, or_true, and_true, true_and, false_and, and_false, false_or, or_false, ite_true, ite_false, if_true, if_false, not_true, not_false_iff, Classical.not_not, nem, ite_not, ne_eq]
                    simp (decide := true) (disch := (first | assumption | (simp only [Sh_setI, Sm_setI, Sh_setL, Sm_setL]; assumption) | omega)) only [B_214_62, B_214_67, B_214_71, B_214_76, B_214_86, B_214_97, B_214_110, B_214_127, n0, a0, b0, n_ix, n_cl, FA.2.2.2.2.2 83 (by omega), z1, w1, n_lt, n_le, show ¬ z < a by omega, show ¬ w < b by omega, ez, ew, show ¬ z - a < N by omega, db, n_Omul, n_add, bI_True, bI_False, p_max, p_min, p_abs, Option.bind_some, Option.bind_none, Option.toList_some, Option.toList_none, List.cons_append, List.nil_append, bI_eq0, bI_ne0, bI_ne1, bI_eq1, bI_01, eq_self, true_or, or_true, and_true, true_and, false_and, and_false, false_or, or_false, ite_true, ite_false, if_true, if_false, not_true, not_false_iff, Classical.not_not, nem, ite_not, ne_eq]
                  rw [prm']
                  exact e2
                · rw [s56 82 (by omega) (by omega)]
                  split
                  · rename_i e; rw [e]
                  · rfl
                · rw [s56 83 (by omega) (by omega)]
                  split
                  · rename_i e; rw [e]
                  · rfl
                · rw [s56 _ (by omega) (by omega)]; exact b1
                · rw [s56 _ (by omega) (by omega)]; exact b2
                · rw [F2.2.2.2.2.2 _ (by omega), hI_cpy, f2, s84, s84]
                  by_cases c : b ≤ k ∧ k < b + N
                  · rw [if_pos (by omega), if_pos (by omega), a3 hms (a + (k - b)) (by rw [z1, cl, n_cl hz31]; omega)]
                    congr 1; omega
                  · rw [if_neg (by omega), if_neg (by omega)]
                    exact b3 hmo k hk
                · rw [f2, s84, s84, if_neg (by omega)]
              · exact stp_same (v := vi (-12)) R (bad2 (fun q => by
                  have q1 := q.2.2.1
                  have q2 := q.2.2.2
                  rw [n_le hN hw31] at q1
                  rw [nI_sub_le w2 q1 hb] at q2
                  omega) _) (by rw [prm]; simp (decide := true) (disch := (first | assumption | (simp only [Sh_setI, Sm_setI, Sh_setL, Sm_setL]; assumption) | omega)) only [B_214_62, B_214_67, B_214_71, B_214_76, B_214_86, B_214_97, B_214_110, B_214_124, n0, a0, b0, n_ix, n_cl, z1, w1, n_lt, n_le, show ¬ z < a by omega, show ¬ w < b by omega, ez, ew, show ¬ z - a < N by omega, db, bI_True, bI_False, p_max, p_min, p_abs, Option.bind_some, Option.bind_none, Option.toList_some, Option.toList_none, List.cons_append, List.nil_append, bI_eq0, bI_ne0, bI_ne1, bI_eq1, bI_01, eq_self, true_or, or_true, and_true, true_and, false_and, and_false, false_or, or_false, ite_true, ite_false, if_true, if_false, not_true, not_false_iff, Classical.not_not, nem, ite_not, ne_eq])
            · exact stp_same (v := vi (-12)) R (bad1 (fun q => by
                have q1 := q.2.2.1
                have q2 := q.2.2.2
                rw [n_le hN hz31] at q1
                rw [nI_sub_le z2 q1 ha] at q2
                omega) _) (by rw [prm]; simp (decide := true) (disch := (first | assumption | (simp only [Sh_setI, Sm_setI, Sh_setL, Sm_setL]; assumption) | omega)) only [B_214_62, B_214_67, B_214_71, B_214_76, B_214_86, B_214_97, B_214_124, n0, a0, b0, n_ix, n_cl, z1, w1, n_lt, n_le, show ¬ z < a by omega, show ¬ w < b by omega, ez, ew, show z - a < N by omega, bI_True, bI_False, p_max, p_min, p_abs, Option.bind_some, Option.bind_none, Option.toList_some, Option.toList_none, List.cons_append, List.nil_append, bI_eq0, bI_ne0, bI_ne1, bI_eq1, bI_01, eq_self, true_or, or_true, and_true, true_and, false_and, and_false, false_or, or_false, ite_true, ite_false, if_true, if_false, not_true, not_false_iff, Classical.not_not, nem, ite_not, ne_eq])
          · exact stp_same (v := vi (-12)) R (bad2 (fun q => by
              have q1 := q.2.2.1
              have q2 := q.2.2.2
              rw [n_le hN hw31] at q1
              rw [nI_sub_le w2 q1 hb] at q2
              omega) _) (by rw [prm]; simp (decide := true) (disch := (first | assumption | (simp only [Sh_setI, Sm_setI, Sh_setL, Sm_setL]; assumption) | omega)) only [B_214_62, B_214_67, B_214_71, B_214_76, B_214_86, B_214_124, n0, a0, b0, n_ix, n_cl, z1, w1, n_lt, show ¬ z < a by omega, show w < b by omega, bI_True, bI_False, p_max, p_min, p_abs, Option.bind_some, Option.bind_none, Option.toList_some, Option.toList_none, List.cons_append, List.nil_append, bI_eq0, bI_ne0, bI_ne1, bI_eq1, bI_01, eq_self, true_or, or_true, and_true, true_and, false_and, and_false, false_or, or_false, ite_true, ite_false, if_true, if_false, not_true, not_false_iff, Classical.not_not, nem, ite_not, ne_eq])
        · exact stp_same (v := vi (-12)) R (bad1 (fun q => by
            have q1 := q.2.2.1
            have q2 := q.2.2.2
            rw [n_le hN hz31] at q1
            rw [nI_sub_le z2 q1 ha] at q2
            omega) _) (by rw [prm]; simp (decide := true) (disch := (first | assumption | (simp only [Sh_setI, Sm_setI, Sh_setL, Sm_setL]; assumption) | omega)) only [B_214_62, B_214_67, B_214_71, B_214_76, B_214_124, n0, a0, b0, n_ix, n_cl, z1, n_lt, show z < a by omega, bI_True, bI_False, p_max, p_min, p_abs, Option.bind_some, Option.bind_none, Option.toList_some, Option.toList_none, List.cons_append, List.nil_append, bI_eq0, bI_ne0, bI_ne1, bI_eq1, bI_01, eq_self, true_or, or_true, and_true, true_and, false_and, and_false, false_or, or_false, ite_true, ite_false, if_true, if_false, not_true, not_false_iff, Classical.not_not, nem, ite_not, ne_eq])
      · exact stp_same (v := vi (-13)) R (by simp (decide := true) (disch := (first | assumption | (simp only [Sh_setI, Sm_setI, Sh_setL, Sm_setL]; assumption) | omega)) only [E_140, B_140_0, B_140_5, B_140_12, B_140_19, B_140_27, B_140_32, B_140_35, B_140_40, B_140_46, B_140_59, cs, co, reduceCtorEq, p2, r2, c_isMissing p2, c_isMissing r2, a1, b1, hms, hmo, hso, bI_True, bI_False, p_max, p_min, p_abs, Option.bind_some, Option.bind_none, Option.toList_some, Option.toList_none, List.cons_append, List.nil_append, bI_eq0, bI_ne0, bI_ne1, bI_eq1, bI_01, eq_self, true_or, or_true, and_true, true_and, false_and, and_false, false_or, or_false, ite_true, ite_false, if_true, if_false, not_true, not_false_iff, Classical.not_not, nem, ite_not, ne_eq]) (by simp (decide := true) (disch := (first | assumption | (simp only [Sh_setI, Sm_setI, Sh_setL, Sm_setL]; assumption) | omega)) only [E_214, B_214_0, B_214_6, B_214_9, B_214_15, B_214_21, B_214_31, B_214_44, B_214_59, m_in, n_leO, n_Ole, Nat.zero_le, hs3, ho3, n_ix, n_cl, hms, hmo, hso, bI_True, bI_False, p_max, p_min, p_abs, Option.bind_some, Option.bind_none, Option.toList_some, Option.toList_none, List.cons_append, List.nil_append, bI_eq0, bI_ne0, bI_ne1, bI_eq1, bI_01, eq_self, true_or, or_true, and_true, true_and, false_and, and_false, false_or, or_false, ite_true, ite_false, if_true, if_false, not_true, not_false_iff, Classical.not_not, nem, ite_not, ne_eq])
    · exact stp_same (v := vi (-2)) R (by simp (decide := true) (disch := (first | assumption | (simp only [Sh_setI, Sm_setI, Sh_setL, Sm_setL]; assumption) | omega)) only [E_140, B_140_0, B_140_5, B_140_12, B_140_19, B_140_24, c_sheetAt S hs, c_sheetNo hy, reduceCtorEq, bI_True, bI_False, p_max, p_min, p_abs, Option.bind_some, Option.bind_none, Option.toList_some, Option.toList_none, List.cons_append, List.nil_append, bI_eq0, bI_ne0, bI_ne1, bI_eq1, bI_01, eq_self, true_or, or_true, and_true, true_and, false_and, and_false, false_or, or_false, ite_true, ite_false, if_true, if_false, not_true, not_false_iff, Classical.not_not, nem, ite_not, ne_eq]) (by simp (decide := true) (disch := (first | assumption | (simp only [Sh_setI, Sm_setI, Sh_setL, Sm_setL]; assumption) | omega)) only [E_214, B_214_0, B_214_6, B_214_9, B_214_15, B_214_18, m_in, n_leO, n_Ole, Nat.zero_le, hs3, hy, bI_True, bI_False, p_max, p_min, p_abs, Option.bind_some, Option.bind_none, Option.toList_some, Option.toList_none, List.cons_append, List.nil_append, bI_eq0, bI_ne0, bI_ne1, bI_eq1, bI_01, eq_self, true_or, or_true, and_true, true_and, false_and, and_false, false_or, or_false, ite_true, ite_false, if_true, if_false, not_true, not_false_iff, Classical.not_not, nem, ite_not, ne_eq])
  · rcases in_M y 3 (M := 3) rfl (by decide) with ⟨o, ho3, rfl⟩ | hy
    · exact stp_same (v := vi (-2)) R (by simp (decide := true) (disch := (first | assumption | (simp only [Sh_setI, Sm_setI, Sh_setL, Sm_setL]; assumption) | omega)) only [E_140, B_140_0, B_140_5, B_140_12, B_140_24, c_sheetAt S (show o < 4 by omega), c_sheetNo hx, bI_True, bI_False, p_max, p_min, p_abs, Option.bind_some, Option.bind_none, Option.toList_some, Option.toList_none, List.cons_append, List.nil_append, bI_eq0, bI_ne0, bI_ne1, bI_eq1, bI_01, eq_self, true_or, or_true, and_true, true_and, false_and, and_false, false_or, or_false, ite_true, ite_false, if_true, if_false, not_true, not_false_iff, Classical.not_not, nem, ite_not, ne_eq]) (by simp (decide := true) (disch := (first | assumption | (simp only [Sh_setI, Sm_setI, Sh_setL, Sm_setL]; assumption) | omega)) only [E_214, B_214_0, B_214_6, B_214_18, m_in, hx, bI_True, bI_False, p_max, p_min, p_abs, Option.bind_some, Option.bind_none, Option.toList_some, Option.toList_none, List.cons_append, List.nil_append, bI_eq0, bI_ne0, bI_ne1, bI_eq1, bI_01, eq_self, true_or, or_true, and_true, true_and, false_and, and_false, false_or, or_false, ite_true, ite_false, if_true, if_false, not_true, not_false_iff, Classical.not_not, nem, ite_not, ne_eq])
    · exact stp_same (v := vi (-2)) R (by simp (decide := true) (disch := (first | assumption | (simp only [Sh_setI, Sm_setI, Sh_setL, Sm_setL]; assumption) | omega)) only [E_140, B_140_0, B_140_5, B_140_12, B_140_24, c_sheetNo hx, c_sheetNo hy, bI_True, bI_False, p_max, p_min, p_abs, Option.bind_some, Option.bind_none, Option.toList_some, Option.toList_none, List.cons_append, List.nil_append, bI_eq0, bI_ne0, bI_ne1, bI_eq1, bI_01, eq_self, true_or, or_true, and_true, true_and, false_and, and_false, false_or, or_false, ite_true, ite_false, if_true, if_false, not_true, not_false_iff, Classical.not_not, nem, ite_not, ne_eq]) (by simp (decide := true) (disch := (first | assumption | (simp only [Sh_setI, Sm_setI, Sh_setL, Sm_setL]; assumption) | omega)) only [E_214, B_214_0, B_214_6, B_214_18, m_in, hx, bI_True, bI_False, p_max, p_min, p_abs, Option.bind_some, Option.bind_none, Option.toList_some, Option.toList_none, List.cons_append, List.nil_append, bI_eq0, bI_ne0, bI_ne1, bI_eq1, bI_01, eq_self, true_or, or_true, and_true, true_and, false_and, and_false, false_or, or_false, ite_true, ite_false, if_true, if_false, not_true, not_false_iff, Classical.not_not, nem, ite_not, ne_eq])
end COPY
