/-! taken -/
def underB (k w : Nat) : Bool := w == 0 || k == w || (w == 1 && k == 4) || (w == 2 && (k == 3 || k == 5))
section CALLS7
variable {d : Nat} {h : am_H}
theorem c_isOneOf {k w : Nat} (hk : k < 6) (hw : w < 6) : Cl (d + 5) 143 [vi (nI k), vi (nI w)] h = some (some (vi (bI (underB k w = true))), h) := by
  have l0 : ∀ j s, s + j = 6 → ¬ w = 0 → ∀ k0, Ev (d + 5) 143 4 [vi k0, vi (nI w), vi (nI 0), vi (nI s)] [] h = some (some (vi 0), h) := by
    intro j
    induction j with
    | zero =>
      intro s e q k0
      simp (decide := true) (disch := (first | assumption | (simp only [Sh_setI, Sm_setI, Sh_setL, Sm_setL]; assumption) | omega)) only [B_143_4, B_143_26, B_143_35, B_143_36, n_Ole, show 6 ≤ s by omega, n_eq, show ¬ 0 = w by omega, bI_True, bI_False, p_max, p_min, p_abs, Option.bind_some, Option.bind_none, Option.toList_some, Option.toList_none, List.cons_append, List.nil_append, bI_eq0, bI_ne0, bI_ne1, bI_eq1, bI_01, eq_self, true_or, or_true, and_true, true_and, false_and, and_false, false_or, or_false, ite_true, ite_false, if_true, if_false, not_true, not_false_iff, Classical.not_not, nem, ite_not, ne_eq]
    | succ j ih =>
      intro s e q k0
      rw [B_143_4]
      simp (decide := true) (disch := (first | assumption | (simp only [Sh_setI, Sm_setI, Sh_setL, Sm_setL]; assumption) | omega)) only [B_143_10, B_143_15, B_143_19, n_Ole, show ¬ 6 ≤ s by omega, n_eq, show ¬ 0 = w by omega, E_144, B_144_0, B_144_28, B_144_30, B_144_32, am_swE, n_eqO, n_addO, bI_True, bI_False, p_max, p_min, p_abs, Option.bind_some, Option.bind_none, Option.toList_some, Option.toList_none, List.cons_append, List.nil_append, bI_eq0, bI_ne0, bI_ne1, bI_eq1, bI_01, eq_self, true_or, or_true, and_true, true_and, false_and, and_false, false_or, or_false, ite_true, ite_false, if_true, if_false, not_true, not_false_iff, Classical.not_not, nem, ite_not, ne_eq]
      exact ih (s + 1) (by omega) q k0
  have hit : ∀ s k0, Ev (d + 5) 143 4 [vi k0, vi (nI w), vi (nI w), vi (nI s)] [] h = some (some (vi 1), h) := by
    intro s k0
    simp (decide := true) (disch := (first | assumption | (simp only [Sh_setI, Sm_setI, Sh_setL, Sm_setL]; assumption) | omega)) only [B_143_4, B_143_10, B_143_26, B_143_31, B_143_36, ne1_0, bI_True, bI_False, p_max, p_min, p_abs, Option.bind_some, Option.bind_none, Option.toList_some, Option.toList_none, List.cons_append, List.nil_append, bI_eq0, bI_ne0, bI_ne1, bI_eq1, bI_01, eq_self, true_or, or_true, and_true, true_and, false_and, and_false, false_or, or_false, ite_true, ite_false, if_true, if_false, not_true, not_false_iff, Classical.not_not, nem, ite_not, ne_eq]
    split <;> rfl
  have go : ∀ a s k0, a < 6 → s < 6 → a ≠ w → Ev (d + 5) 143 4 [vi k0, vi (nI w), vi (nI a), vi (nI s)] [] h = Ev (d + 5) 143 4 [vi k0, vi (nI w), vi (nI (if a = 3 ∨ a = 5 then 2 else if a = 4 then 1 else 0)), vi (nI (s + 1))] [] h := by
    intro a s k0 ha hs q
    rw [B_143_4]
    simp (decide := true) (disch := (first | assumption | (simp only [Sh_setI, Sm_setI, Sh_setL, Sm_setL]; assumption) | omega)) only [B_143_10, B_143_15, B_143_19, n_Ole, show ¬ 6 ≤ s by omega, n_eq, q, E_144, B_144_0, B_144_28, B_144_30, B_144_32, am_swE, n_eqO, n_addO, bI_True, bI_False, p_max, p_min, p_abs, Option.bind_some, Option.bind_none, Option.toList_some, Option.toList_none, List.cons_append, List.nil_append, bI_eq0, bI_ne0, bI_ne1, bI_eq1, bI_01, eq_self, true_or, or_true, and_true, true_and, false_and, and_false, false_or, or_false, ite_true, ite_false, if_true, if_false, not_true, not_false_iff, Classical.not_not, nem, ite_not, ne_eq]
    by_cases a3 : a = 3
    · simp (decide := true) (disch := (first | assumption | (simp only [Sh_setI, Sm_setI, Sh_setL, Sm_setL]; assumption) | omega)) only [a3, B_143_19, n_addO, bI_True, bI_False, p_max, p_min, p_abs, Option.bind_some, Option.bind_none, Option.toList_some, Option.toList_none, List.cons_append, List.nil_append, bI_eq0, bI_ne0, bI_ne1, bI_eq1, bI_01, eq_self, true_or, or_true, and_true, true_and, false_and, and_false, false_or, or_false, ite_true, ite_false, if_true, if_false, not_true, not_false_iff, Classical.not_not, nem, ite_not, ne_eq]; rfl
    · by_cases a4 : a = 4
      · simp (decide := true) (disch := (first | assumption | (simp only [Sh_setI, Sm_setI, Sh_setL, Sm_setL]; assumption) | omega)) only [a4, B_143_19, n_addO, bI_True, bI_False, p_max, p_min, p_abs, Option.bind_some, Option.bind_none, Option.toList_some, Option.toList_none, List.cons_append, List.nil_append, bI_eq0, bI_ne0, bI_ne1, bI_eq1, bI_01, eq_self, true_or, or_true, and_true, true_and, false_and, and_false, false_or, or_false, ite_true, ite_false, if_true, if_false, not_true, not_false_iff, Classical.not_not, nem, ite_not, ne_eq]; rfl
      · by_cases a5 : a = 5
        · simp (decide := true) (disch := (first | assumption | (simp only [Sh_setI, Sm_setI, Sh_setL, Sm_setL]; assumption) | omega)) only [a5, B_143_19, n_addO, bI_True, bI_False, p_max, p_min, p_abs, Option.bind_some, Option.bind_none, Option.toList_some, Option.toList_none, List.cons_append, List.nil_append, bI_eq0, bI_ne0, bI_ne1, bI_eq1, bI_01, eq_self, true_or, or_true, and_true, true_and, false_and, and_false, false_or, or_false, ite_true, ite_false, if_true, if_false, not_true, not_false_iff, Classical.not_not, nem, ite_not, ne_eq]; rfl
        · simp (decide := true) (disch := (first | assumption | (simp only [Sh_setI, Sm_setI, Sh_setL, Sm_setL]; assumption) | omega)) only [a3, a4, a5, B_143_19, n_addO, bI_True, bI_False, p_max, p_min, p_abs, Option.bind_some, Option.bind_none, Option.toList_some, Option.toList_none, List.cons_append, List.nil_append, bI_eq0, bI_ne0, bI_ne1, bI_eq1, bI_01, eq_self, true_or, or_true, and_true, true_and, false_and, and_false, false_or, or_false, ite_true, ite_false, if_true, if_false, not_true, not_false_iff, Classical.not_not, nem, ite_not, ne_eq]; rfl
  have z0 : ∀ s k0, s ≤ 6 → ¬ w = 0 → Ev (d + 5) 143 4 [vi k0, vi (nI w), vi (nI 0), vi (nI s)] [] h = some (some (vi 0), h) := fun s k0 hs q => l0 (6 - s) s (by omega) q k0
  rw [E_143, B_143_0]
  rw [show (0 : Int32) = nI 0 from rfl]
  by_cases a : k = w
  · subst a
    rw [hit, bI_T (by unfold underB; simp)]
  · rw [go k 0 _ hk (by omega) a]
    by_cases b : w = 0
    · subst b
      rw [bI_T (by unfold underB; simp)]
      by_cases c0 : k = 3 ∨ k = 5
      · rw [if_pos c0, go 2 1 _ (by omega) (by omega) (by omega)]
        exact hit _ _
      · rw [if_neg c0]
        by_cases c4 : k = 4
        · rw [if_pos c4, go 1 1 _ (by omega) (by omega) (by omega)]
          exact hit _ _
        · rw [if_neg c4]
          exact hit _ _
    · by_cases c0 : k = 3 ∨ k = 5
      · rw [if_pos c0]
        by_cases e : w = 2
        · subst e
          rw [hit, bI_T (by rcases c0 with rfl | rfl <;> decide)]
        · rw [go 2 1 _ (by omega) (by omega) (by omega)]
          refine (z0 2 _ (by omega) b).trans ?_
          rw [bI_F (by unfold underB; simp; omega)]
      · rw [if_neg c0]
        by_cases c4 : k = 4
        · rw [if_pos c4]
          by_cases e : w = 1
          · subst e; subst c4
            rw [hit, bI_T (by decide)]
          · rw [go 1 1 _ (by omega) (by omega) (by omega)]
            refine (z0 2 _ (by omega) b).trans ?_
            rw [bI_F (by unfold underB; simp; omega)]
        · rw [if_neg c4]
          refine (z0 1 _ (by omega) b).trans ?_
          rw [bI_F (by unfold underB; simp; omega)]
theorem m_isUnder {k w : Nat} (hk : k < 6) (hw : w < 6) : Cl (d + 4) 217 [vi (nI k), vi (nI w)] h = some (some (vi (bI (underB k w = true))), h) := by
  have key : ∀ k, k < 6 → ∀ w, w < 6 → Cl (d + 4) 217 [vi (nI k), vi (nI w)] h = some (some (vi (bI (underB k w = true))), h) := by
    intro k hk w hw
    simp (decide := true) (disch := (first | assumption | (simp only [Sh_setI, Sm_setI, Sh_setL, Sm_setL]; assumption) | omega)) only [E_217, B_217_0, B_217_4, B_217_9, B_217_14, B_217_19, B_217_24, B_217_29, B_217_34, B_217_38, B_217_39, n_eqO, n_eq, bI_True, bI_False, p_max, p_min, p_abs, Option.bind_some, Option.bind_none, Option.toList_some, Option.toList_none, List.cons_append, List.nil_append, bI_eq0, bI_ne0, bI_ne1, bI_eq1, bI_01, eq_self, true_or, or_true, and_true, true_and, false_and, and_false, false_or, or_false, ite_true, ite_false, if_true, if_false, not_true, not_false_iff, Classical.not_not, nem, ite_not, ne_eq]
    unfold underB
    by_cases a : w = 0
    · simp (decide := true) (disch := (first | assumption | (simp only [Sh_setI, Sm_setI, Sh_setL, Sm_setL]; assumption) | omega)) only [a, bI_True, bI_False, p_max, p_min, p_abs, Option.bind_some, Option.bind_none, Option.toList_some, Option.toList_none, List.cons_append, List.nil_append, bI_eq0, bI_ne0, bI_ne1, bI_eq1, bI_01, eq_self, true_or, or_true, and_true, true_and, false_and, and_false, false_or, or_false, ite_true, ite_false, if_true, if_false, not_true, not_false_iff, Classical.not_not, nem, ite_not, ne_eq]; rw [bI_T (by simp)]
    · by_cases b : k = w
      · simp (decide := true) (disch := (first | assumption | (simp only [Sh_setI, Sm_setI, Sh_setL, Sm_setL]; assumption) | omega)) only [a, b, bI_True, bI_False, p_max, p_min, p_abs, Option.bind_some, Option.bind_none, Option.toList_some, Option.toList_none, List.cons_append, List.nil_append, bI_eq0, bI_ne0, bI_ne1, bI_eq1, bI_01, eq_self, true_or, or_true, and_true, true_and, false_and, and_false, false_or, or_false, ite_true, ite_false, if_true, if_false, not_true, not_false_iff, Classical.not_not, nem, ite_not, ne_eq]; rw [bI_T (by simp)]
      · by_cases c : w = 1
        · by_cases e : k = 4
          · simp (decide := true) (disch := (first | assumption | (simp only [Sh_setI, Sm_setI, Sh_setL, Sm_setL]; assumption) | omega)) only [a, b, c, e, bI_True, bI_False, p_max, p_min, p_abs, Option.bind_some, Option.bind_none, Option.toList_some, Option.toList_none, List.cons_append, List.nil_append, bI_eq0, bI_ne0, bI_ne1, bI_eq1, bI_01, eq_self, true_or, or_true, and_true, true_and, false_and, and_false, false_or, or_false, ite_true, ite_false, if_true, if_false, not_true, not_false_iff, Classical.not_not, nem, ite_not, ne_eq]
          · subst c; simp (decide := true) (disch := (first | assumption | (simp only [Sh_setI, Sm_setI, Sh_setL, Sm_setL]; assumption) | omega)) only [b, e, bI_True, bI_False, p_max, p_min, p_abs, Option.bind_some, Option.bind_none, Option.toList_some, Option.toList_none, List.cons_append, List.nil_append, bI_eq0, bI_ne0, bI_ne1, bI_eq1, bI_01, eq_self, true_or, or_true, and_true, true_and, false_and, and_false, false_or, or_false, ite_true, ite_false, if_true, if_false, not_true, not_false_iff, Classical.not_not, nem, ite_not, ne_eq]; rw [bI_F (by simp; omega)]
        · by_cases c2 : w = 2
          · by_cases e : k = 3
            · subst c2; simp (decide := true) (disch := (first | assumption | (simp only [Sh_setI, Sm_setI, Sh_setL, Sm_setL]; assumption) | omega)) only [b, e, bI_True, bI_False, p_max, p_min, p_abs, Option.bind_some, Option.bind_none, Option.toList_some, Option.toList_none, List.cons_append, List.nil_append, bI_eq0, bI_ne0, bI_ne1, bI_eq1, bI_01, eq_self, true_or, or_true, and_true, true_and, false_and, and_false, false_or, or_false, ite_true, ite_false, if_true, if_false, not_true, not_false_iff, Classical.not_not, nem, ite_not, ne_eq]
            · by_cases e5 : k = 5
              · subst c2; simp (decide := true) (disch := (first | assumption | (simp only [Sh_setI, Sm_setI, Sh_setL, Sm_setL]; assumption) | omega)) only [b, e, e5, bI_True, bI_False, p_max, p_min, p_abs, Option.bind_some, Option.bind_none, Option.toList_some, Option.toList_none, List.cons_append, List.nil_append, bI_eq0, bI_ne0, bI_ne1, bI_eq1, bI_01, eq_self, true_or, or_true, and_true, true_and, false_and, and_false, false_or, or_false, ite_true, ite_false, if_true, if_false, not_true, not_false_iff, Classical.not_not, nem, ite_not, ne_eq]
              · subst c2; simp (decide := true) (disch := (first | assumption | (simp only [Sh_setI, Sm_setI, Sh_setL, Sm_setL]; assumption) | omega)) only [b, e, e5, bI_True, bI_False, p_max, p_min, p_abs, Option.bind_some, Option.bind_none, Option.toList_some, Option.toList_none, List.cons_append, List.nil_append, bI_eq0, bI_ne0, bI_ne1, bI_eq1, bI_01, eq_self, true_or, or_true, and_true, true_and, false_and, and_false, false_or, or_false, ite_true, ite_false, if_true, if_false, not_true, not_false_iff, Classical.not_not, nem, ite_not, ne_eq]; rw [bI_F (by simp; omega)]
          · simp (decide := true) (disch := (first | assumption | (simp only [Sh_setI, Sm_setI, Sh_setL, Sm_setL]; assumption) | omega)) only [a, b, c, c2, bI_True, bI_False, p_max, p_min, p_abs, Option.bind_some, Option.bind_none, Option.toList_some, Option.toList_none, List.cons_append, List.nil_append, bI_eq0, bI_ne0, bI_ne1, bI_eq1, bI_01, eq_self, true_or, or_true, and_true, true_and, false_and, and_false, false_or, or_false, ite_true, ite_false, if_true, if_false, not_true, not_false_iff, Classical.not_not, nem, ite_not, ne_eq]; rw [bI_F (by simp; omega)]
  exact key k hk w hw
theorem s_taken (R : Rel h) {c k : Int32} : Stq (d + 9) 142 216 [vi c, vi k] h := by
  obtain ⟨S, T, I, C, L⟩ := id R
  have q1 : hI h 1 6 = hI h 56 12 := C.2.2.2.1.1
  have q2 : hI h 56 12 = nI (yC (hI h)) := I.2.2.2.1.1.1
  have q3 : yC (hI h) ≤ 40 := I.2.2.2.1.1.2
  rcases in_M k 5 (M := 5) rfl (by decide) with ⟨w, hw, rfl⟩ | hk
  · rcases in_M c 39 (M := 39) rfl (by decide) with ⟨c, hc, rfl⟩ | hc
    · by_cases hcc : c < yC (hI h)
      · obtain ⟨n, dn, sn, E⟩ := card_env I C hcc
        have J := card_int I hcc
        have ec := fun d => c_cardAt (d := d) S (q1.trans q2) q3 hcc
        have em := fun d => m_isCardT (d := d) T q2 hcc (by omega)
        obtain ⟨kd, hkd', ekd⟩ := J.1
        exact stp_same (v := vi (if underB kd w = true then nI c else -13)) R (by simp (decide := true) (disch := (first | assumption | (simp only [Sh_setI, Sm_setI, Sh_setL, Sm_setL]; assumption) | omega)) only [E_142, B_142_0, B_142_4, B_142_7, B_142_10, B_142_17, B_142_20, B_142_23, B_142_28, B_142_33, B_142_36, B_142_44, B_142_47, B_142_51, B_142_53, c_isKind, lt6, n_leO, n_Ole, Nat.zero_le, hw, c_isIn, hc, ec, E.2.1.1, E.2.1.2.1, reduceCtorEq, E.2.2.1.1, ekd, c_isOneOf hkd' (show w < 6 by omega), mg_ev, mg_i, bI_True, bI_False, p_max, p_min, p_abs, Option.bind_some, Option.bind_none, Option.toList_some, Option.toList_none, List.cons_append, List.nil_append, bI_eq0, bI_ne0, bI_ne1, bI_eq1, bI_01, eq_self, true_or, or_true, and_true, true_and, false_and, and_false, false_or, or_false, ite_true, ite_false, if_true, if_false, not_true, not_false_iff, Classical.not_not, nem, ite_not, ne_eq]) (by simp (decide := true) (disch := (first | assumption | (simp only [Sh_setI, Sm_setI, Sh_setL, Sm_setL]; assumption) | omega)) only [E_216, B_216_0, B_216_6, B_216_9, B_216_12, B_216_19, B_216_22, B_216_25, B_216_30, B_216_33, B_216_36, B_216_46, B_216_49, B_216_53, B_216_55, m_in, n_leO, n_Ole, Nat.zero_le, hw, hc, em, n_ix, n_cl, ekd, m_isUnder hkd' (show w < 6 by omega), mg_ev, mg_i, bI_True, bI_False, p_max, p_min, p_abs, Option.bind_some, Option.bind_none, Option.toList_some, Option.toList_none, List.cons_append, List.nil_append, bI_eq0, bI_ne0, bI_ne1, bI_eq1, bI_01, eq_self, true_or, or_true, and_true, true_and, false_and, and_false, false_or, or_false, ite_true, ite_false, if_true, if_false, not_true, not_false_iff, Classical.not_not, nem, ite_not, ne_eq])
      · have hn : ¬ (0 ≤ nI c ∧ nI c ≤ hI h 56 12 - 1) := fun z => by
          have z2 := z.2
          rw [q2] at z2
          by_cases y0 : yC (hI h) = 0
          · rw [y0] at z2
            exact absurd (Int32.le_trans z.1 z2) (by decide)
          · rw [n_subO (by omega), nI_leI (by omega) (by omega)] at z2
            omega
        exact stp_same (v := vi (-11)) R (by simp (decide := true) (disch := (first | assumption | (simp only [Sh_setI, Sm_setI, Sh_setL, Sm_setL]; assumption) | omega)) only [E_142, B_142_0, B_142_4, B_142_7, B_142_10, B_142_17, B_142_20, B_142_23, B_142_28, B_142_33, B_142_36, B_142_44, B_142_47, B_142_51, B_142_53, c_isKind, lt6, n_leO, n_Ole, Nat.zero_le, hw, c_isIn, hc, c_cardNo S (x := nI c) (by rw [q1]; exact hn), bI_True, bI_False, p_max, p_min, p_abs, Option.bind_some, Option.bind_none, Option.toList_some, Option.toList_none, List.cons_append, List.nil_append, bI_eq0, bI_ne0, bI_ne1, bI_eq1, bI_01, eq_self, true_or, or_true, and_true, true_and, false_and, and_false, false_or, or_false, ite_true, ite_false, if_true, if_false, not_true, not_false_iff, Classical.not_not, nem, ite_not, ne_eq]) (by simp (decide := true) (disch := (first | assumption | (simp only [Sh_setI, Sm_setI, Sh_setL, Sm_setL]; assumption) | omega)) only [E_216, B_216_0, B_216_6, B_216_9, B_216_12, B_216_19, B_216_22, B_216_25, B_216_30, B_216_33, B_216_36, B_216_46, B_216_49, B_216_53, B_216_55, m_in, n_leO, n_Ole, Nat.zero_le, hw, hc, m_isCard T, show ¬ nI c ≤ hI h 56 12 - 1 from fun z => hn ⟨nI_pos' (by omega), z⟩, bI_True, bI_False, p_max, p_min, p_abs, Option.bind_some, Option.bind_none, Option.toList_some, Option.toList_none, List.cons_append, List.nil_append, bI_eq0, bI_ne0, bI_ne1, bI_eq1, bI_01, eq_self, true_or, or_true, and_true, true_and, false_and, and_false, false_or, or_false, ite_true, ite_false, if_true, if_false, not_true, not_false_iff, Classical.not_not, nem, ite_not, ne_eq])
    · exact stp_same (v := vi (-12)) R (by simp (decide := true) (disch := (first | assumption | (simp only [Sh_setI, Sm_setI, Sh_setL, Sm_setL]; assumption) | omega)) only [E_142, B_142_0, B_142_4, B_142_7, B_142_10, B_142_17, B_142_20, B_142_23, B_142_28, B_142_33, B_142_36, B_142_44, B_142_47, B_142_51, B_142_53, c_isKind, lt6, n_leO, n_Ole, Nat.zero_le, hw, c_isIn, hc, bI_True, bI_False, p_max, p_min, p_abs, Option.bind_some, Option.bind_none, Option.toList_some, Option.toList_none, List.cons_append, List.nil_append, bI_eq0, bI_ne0, bI_ne1, bI_eq1, bI_01, eq_self, true_or, or_true, and_true, true_and, false_and, and_false, false_or, or_false, ite_true, ite_false, if_true, if_false, not_true, not_false_iff, Classical.not_not, nem, ite_not, ne_eq]) (by simp (decide := true) (disch := (first | assumption | (simp only [Sh_setI, Sm_setI, Sh_setL, Sm_setL]; assumption) | omega)) only [E_216, B_216_0, B_216_6, B_216_9, B_216_12, B_216_19, B_216_22, B_216_25, B_216_30, B_216_33, B_216_36, B_216_46, B_216_49, B_216_53, B_216_55, m_in, n_leO, n_Ole, Nat.zero_le, hw, hc, bI_True, bI_False, p_max, p_min, p_abs, Option.bind_some, Option.bind_none, Option.toList_some, Option.toList_none, List.cons_append, List.nil_append, bI_eq0, bI_ne0, bI_ne1, bI_eq1, bI_01, eq_self, true_or, or_true, and_true, true_and, false_and, and_false, false_or, or_false, ite_true, ite_false, if_true, if_false, not_true, not_false_iff, Classical.not_not, nem, ite_not, ne_eq])
  · exact stp_same (v := vi (-2)) R (by simp (decide := true) (disch := (first | assumption | (simp only [Sh_setI, Sm_setI, Sh_setL, Sm_setL]; assumption) | omega)) only [E_142, B_142_0, B_142_4, B_142_7, B_142_10, B_142_17, B_142_20, B_142_23, B_142_28, B_142_33, B_142_36, B_142_44, B_142_47, B_142_51, B_142_53, c_isKind, lt6, hk, bI_True, bI_False, p_max, p_min, p_abs, Option.bind_some, Option.bind_none, Option.toList_some, Option.toList_none, List.cons_append, List.nil_append, bI_eq0, bI_ne0, bI_ne1, bI_eq1, bI_01, eq_self, true_or, or_true, and_true, true_and, false_and, and_false, false_or, or_false, ite_true, ite_false, if_true, if_false, not_true, not_false_iff, Classical.not_not, nem, ite_not, ne_eq]) (by simp (decide := true) (disch := (first | assumption | (simp only [Sh_setI, Sm_setI, Sh_setL, Sm_setL]; assumption) | omega)) only [E_216, B_216_0, B_216_6, B_216_9, B_216_12, B_216_19, B_216_22, B_216_25, B_216_30, B_216_33, B_216_36, B_216_46, B_216_49, B_216_53, B_216_55, m_in, hk, bI_True, bI_False, p_max, p_min, p_abs, Option.bind_some, Option.bind_none, Option.toList_some, Option.toList_none, List.cons_append, List.nil_append, bI_eq0, bI_ne0, bI_ne1, bI_eq1, bI_01, eq_self, true_or, or_true, and_true, true_and, false_and, and_false, false_or, or_false, ite_true, ite_false, if_true, if_false, not_true, not_false_iff, Classical.not_not, nem, ite_not, ne_eq])
end CALLS7
