/-! the law: its loop -/
section CLOOP
variable {d : Nat}
theorem lp_all {L : Nat} (hL : L ≤ 384) : ∀ (j i : Nat) (h : am_H), L ≤ i + 6 * j → i ≤ 390 → Rel h → hkd h 0 = 901 → hln h 0 = L → hk h + 16 * j ≤ 600000 → ∃ h1, Ev (d + 84) 0 18 [vr (some 0), vr (some 1), vr (some 56), vi (nI i)] [] h = some (some (vi 1), h1) ∧ hk h1 ≤ hk h + 16 * j ∧ hs h1 ≤ hs h + 400 * j := by
  intro j
  induction j with
  | zero =>
    intro i h e hi R K0 L0 hb
    refine ⟨h, ?_, by omega, by omega⟩
    have lt : nI L - 6 < nI i := by rw [lp_cmp hL (by omega)]; omega
    rw [B_0_18 K0 L0, if_pos lt]
    simp (decide := true) (disch := (first | assumption | (simp only [Sh_setI, Sm_setI, Sh_setL, Sm_setL]; assumption) | omega)) only [B_0_1427, bI_True, bI_False, p_max, p_min, p_abs, Option.bind_some, Option.bind_none, Option.toList_some, Option.toList_none, List.cons_append, List.nil_append, bI_eq0, bI_ne0, bI_ne1, bI_eq1, bI_01, eq_self, true_or, or_true, and_true, true_and, false_and, and_false, false_or, or_false, ite_true, ite_false, if_true, if_false, not_true, not_false_iff, Classical.not_not, nem, ite_not, ne_eq]
  | succ j ih =>
    intro i h e hi R K0 L0 hb
    by_cases q : L < i + 6
    · have lt : nI L - 6 < nI i := by rw [lp_cmp hL (by omega)]; exact q
      refine ⟨h, ?_, by omega, by omega⟩
      rw [B_0_18 K0 L0, if_pos lt]
      simp (decide := true) (disch := (first | assumption | (simp only [Sh_setI, Sm_setI, Sh_setL, Sm_setL]; assumption) | omega)) only [B_0_1427, bI_True, bI_False, p_max, p_min, p_abs, Option.bind_some, Option.bind_none, Option.toList_some, Option.toList_none, List.cons_append, List.nil_append, bI_eq0, bI_ne0, bI_ne1, bI_eq1, bI_01, eq_self, true_or, or_true, and_true, true_and, false_and, and_false, false_or, or_false, ite_true, ite_false, if_true, if_false, not_true, not_false_iff, Classical.not_not, nem, ite_not, ne_eq]
    · have lt : ¬ nI L - 6 < nI i := by rw [lp_cmp hL (by omega)]; exact q
      rw [B_0_18 K0 L0, if_neg lt, B_0_27 K0 L0, if_pos (of_eq_true (n_ix (show i < L by omega) (by omega)))]
      have step : Lx d (am_swE (d + 80 + 4) 0 [vr (some 0), vr (some 1), vr (some 56), vi (nI i)] [] h (hI h 0 (Int32.toNatClampNeg (nI i)) &&& 63) 1421 [(0, 184), (1, 227), (2, 270), (3, 313), (4, 346), (5, 389), (6, 422), (7, 465), (8, 488), (9, 541), (10, 574), (11, 607), (12, 650), (13, 713), (14, 726), (15, 749), (16, 793), (17, 837), (18, 871), (19, 925), (20, 959), (21, 982), (22, 1025), (23, 1048), (24, 1091), (25, 1104), (26, 1137), (27, 1160), (28, 1173), (29, 1186), (30, 1229), (31, 1272), (32, 1335), (33, 1388)]) i h :=
        lx_sw (lp_0 R (by omega) K0 L0 (by omega) hL) (lx_sw (lp_1 R (by omega) K0 L0 (by omega) hL) (lx_sw (lp_2 R (by omega) K0 L0 (by omega) hL) (lx_sw (lp_3 R (by omega) K0 L0 (by omega) hL) (lx_sw (lp_4 R (by omega) K0 L0 (by omega) hL) (lx_sw (lp_5 R (by omega) K0 L0 (by omega) hL) (lx_sw (lp_6 R (by omega) K0 L0 (by omega) hL) (lx_sw (lp_7 R (by omega) K0 L0 (by omega) hL) (lx_sw (lp_8 R (by omega) K0 L0 (by omega) hL) (lx_sw (lp_9 R (by omega) K0 L0 (by omega) hL) (lx_sw (lp_10 R (by omega) K0 L0 (by omega) hL) (lx_sw (lp_11 R (by omega) K0 L0 (by omega) hL) (lx_sw (lp_12 R (by omega) K0 L0 (by omega) hL) (lx_sw (lp_13 R (by omega) K0 L0 (by omega) hL) (lx_sw (lp_14 R (by omega) K0 L0 (by omega) hL) (lx_sw (lp_15 R (by omega) K0 L0 (by omega) hL) (lx_sw (lp_16 R (by omega) K0 L0 (by omega) hL) (lx_sw (lp_17 R (by omega) K0 L0 (by omega) hL) (lx_sw (lp_18 R (by omega) K0 L0 (by omega) hL) (lx_sw (lp_19 R (by omega) K0 L0 (by omega) hL) (lx_sw (lp_20 R (by omega) K0 L0 (by omega) hL) (lx_sw (lp_21 R (by omega) K0 L0 (by omega) hL) (lx_sw (lp_22 R (by omega) K0 L0 (by omega) hL) (lx_sw (lp_23 R (by omega) K0 L0 (by omega) hL) (lx_sw (lp_24 R (by omega) K0 L0 (by omega) hL) (lx_sw (lp_25 R (by omega) K0 L0 (by omega) hL) (lx_sw (lp_26 R (by omega) K0 L0 (by omega) hL) (lx_sw (lp_27 R (by omega) K0 L0 (by omega) hL) (lx_sw (lp_28 R (by omega) K0 L0 (by omega) hL) (lx_sw (lp_29 R (by omega) K0 L0 (by omega) hL) (lx_sw (lp_30 R (by omega) K0 L0 (by omega) hL) (lx_sw (lp_31 R (by omega) K0 L0 (by omega) hL) (lx_sw (lp_32 R (by omega) K0 L0 (by omega) hL) (lx_sw (lp_33 R (by omega) K0 L0 (by omega) hL) (⟨h, by show Ev (d + 84) 0 1421 _ _ _ = _; simp (decide := true) (disch := (first | assumption | (simp only [Sh_setI, Sm_setI, Sh_setL, Sm_setL]; assumption) | omega)) only [B_0_1421, n_addO, bI_True, bI_False, p_max, p_min, p_abs, Option.bind_some, Option.bind_none, Option.toList_some, Option.toList_none, List.cons_append, List.nil_append, bI_eq0, bI_ne0, bI_ne1, bI_eq1, bI_01, eq_self, true_or, or_true, and_true, true_and, false_and, and_false, false_or, or_false, ite_true, ite_false, if_true, if_false, not_true, not_false_iff, Classical.not_not, nem, ite_not, ne_eq], R, Gr.rf⟩))))))))))))))))))))))))))))))))))
      obtain ⟨h2, e2, R2, G⟩ := step
      obtain ⟨g1, g2, g3, g4, g5⟩ := G
      obtain ⟨h3, e3, a1, a2⟩ := ih (i + 6) h2 (by omega) (by omega) R2 (g2.trans K0) (g3.trans L0) (by omega)
      exact ⟨h3, e2.trans e3, by omega, by omega⟩
end CLOOP
