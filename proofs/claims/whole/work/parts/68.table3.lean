/-! table, the end -/
def tabV (s : Int64) (n p : Nat) : Int64 := if p = 0 then s / lI (gdF s.toInt n n) else lI (max 1 n) / lI (gdF s.toInt n n)
theorem lI_div {a b : Nat} (h0 : 0 < b) (ha : a < 9223372036854775808) (hb : b < 9223372036854775808) : lI a / lI b = lI (a / b) := by
  apply Int64.toInt_inj.mp
  rw [l_tdiv h0 hb, lI_toInt ha, lI_toInt (Nat.lt_of_le_of_lt (Nat.div_le_self _ _) ha)]
  rfl
theorem gd_0 {n : Nat} : max 1 n / gdF 0 n n = 1 := by
  by_cases z : n = 0
  · subst z; rfl
  · have g : Nat.gcd (0 : Int).natAbs n = n := Nat.gcd_zero_left n
    rw [gdF_gcd 0 n n (by rw [g]; omega) (by rw [g]; exact Nat.le_refl _), g, Nat.max_eq_right (by omega), Nat.div_self (by omega)]
section TABLE3
variable {d : Nat} {h : am_H}
theorem c_tabE {so bi v : Int32} {s : Int64} {n p c : Nat} {a9 a10 : am_V} (hn : n ≤ 40) (hp : p ≤ 1) : Ev (d + 13) 103 141 [vr (some 1), vi so, vi bi, vi v, vi (nI p), vl s, vu, vi (nI n), vi (nI c), a9, a10] [] h = some (some (vl (tabV s n p)), h) := by
  have g1 := gd_pos s.toInt n n
  have g2 := gd_le s.toInt n n
  have eg : Cl (d + 12) 105 [vl s, vi (nI n)] h = some (some (vi (nI (gdF s.toInt n n))), h) := by
    rw [E_105, B_105_0]
    exact c_gcd (d := d + 8) hn n (Nat.le_refl n)
  unfold tabV
  generalize gdF s.toInt n n = g at *
  have gz : ¬ (lI g = 0) := by rw [lI_0 (by omega)]; omega
  have gz2 : ¬ (nI g = 0) := by rw [n_eqO (by omega) (by decide)]; exact fun w => by have : g = 0 := w; omega
  match p, hp with
  | 0, _ => simp (decide := true) (disch := (first | assumption | (simp only [Sh_setI, Sm_setI, Sh_setL, Sm_setL]; assumption) | omega)) only [B_103_141, eg, B_103_148, n_eqO, B_103_155, l_nI, gz, B_103_174, bI_True, bI_False, p_max, p_min, p_abs, Option.bind_some, Option.bind_none, Option.toList_some, Option.toList_none, List.cons_append, List.nil_append, bI_eq0, bI_ne0, bI_ne1, bI_eq1, bI_01, eq_self, true_or, or_true, and_true, true_and, false_and, and_false, false_or, or_false, ite_true, ite_false, if_true, if_false, not_true, not_false_iff, Classical.not_not, nem, ite_not, ne_eq]
  | 1, _ =>
    have em : (if (1 : Int32) < nI n then nI n else 1) = nI (max 1 n) := by
      have e2 : ((1 : Int32) < nI n) = (1 < n) := n_Olt (by omega) (by decide)
      by_cases a : 1 < n
      · rw [if_pos (by rw [e2]; exact a), Nat.max_eq_right (by omega)]
      · rw [if_neg (by rw [e2]; exact a), Nat.max_eq_left (by omega)]; rfl
    simp (decide := true) (disch := (first | assumption | (simp only [Sh_setI, Sm_setI, Sh_setL, Sm_setL]; assumption) | omega)) only [B_103_141, eg, B_103_148, n_eqO, B_103_164, em, B_103_170, gz2, B_103_174, bI_True, bI_False, p_max, p_min, p_abs, Option.bind_some, Option.bind_none, Option.toList_some, Option.toList_none, List.cons_append, List.nil_append, bI_eq0, bI_ne0, bI_ne1, bI_eq1, bI_01, eq_self, true_or, or_true, and_true, true_and, false_and, and_false, false_or, or_false, ite_true, ite_false, if_true, if_false, not_true, not_false_iff, Classical.not_not, nem, ite_not, ne_eq]
    rw [pk_l (by omega) (by omega) (by omega)]
theorem m_lowest {s : Int64} {n p : Nat} (hn : n ≤ 40) (hp : p ≤ 1) (hs0 : n = 0 → s = 0) (hs' : s.toInt.natAbs ≤ 85899345920) : Cl (d + 8) 199 [vl s, vl (lI n), vi (nI p)] h = some (some (vl (tabV s n p)), h) := by
  by_cases z : s = 0
  · subst z
    have e : tabV 0 n p = lI p := by
      unfold tabV
      have z0 : (0 : Int64).toInt = 0 := rfl
      have g1 := gd_pos 0 n n
      have g2 := gd_le 0 n n
      have g3 := gd_0 (n := n)
      rw [z0]
      match p, hp with
      | 0, _ =>
        rw [if_pos rfl]
        apply Int64.toInt_inj.mp
        rw [l_tdiv (by omega) (by omega), z0, Int.zero_tdiv]
        rfl
      | 1, _ => rw [if_neg (by decide), lI_div (by omega) (by omega) (by omega), g3]
    simp (decide := true) (disch := (first | assumption | (simp only [Sh_setI, Sm_setI, Sh_setL, Sm_setL]; assumption) | omega)) only [E_199, B_199_0, B_199_12, lg_eq0, l_nI, e, bI_True, bI_False, p_max, p_min, p_abs, Option.bind_some, Option.bind_none, Option.toList_some, Option.toList_none, List.cons_append, List.nil_append, bI_eq0, bI_ne0, bI_ne1, bI_eq1, bI_01, eq_self, true_or, or_true, and_true, true_and, false_and, and_false, false_or, or_false, ite_true, ite_false, if_true, if_false, not_true, not_false_iff, Classical.not_not, nem, ite_not, ne_eq]
  · have n0 : n ≠ 0 := fun w => z (hs0 w)
    have sz : s.toInt.natAbs ≠ 0 := fun w => z (Int64.toInt_inj.mp (by
      have z0 : (0 : Int64).toInt = 0 := rfl
      omega))
    have gp : 1 ≤ Nat.gcd s.toInt.natAbs n := Nat.gcd_pos_of_pos_right _ (by omega)
    have gl : Nat.gcd s.toInt.natAbs n ≤ n := Nat.gcd_le_right _ (by omega)
    have eg := gdF_gcd s.toInt n n gp gl
    have ab := abs_l (s := s) (by omega)
    have head : Cl (d + 8) 199 [vl s, vl (lI n), vi (nI p)] h = Ev (d + 8) 199 33 [vl s, vu, vl (lI n), vu, vi (nI p), vl (lI s.toInt.natAbs), vu, vl (lI n), vu, vu, vu] [] h := by
      rw [← ab]
      by_cases a : 0 ≤ s
      · have a' : 0 ≤ lg_cmp s 0 := (lg_cmp_ge s 0).mpr a
        simp (decide := true) (disch := (first | assumption | (simp only [Sh_setI, Sm_setI, Sh_setL, Sm_setL]; assumption) | omega)) only [E_199, B_199_0, B_199_6, B_199_16, B_199_27, B_199_28, lg_eq0, z, lI_0, n0, a, a', bI_True, bI_False, p_max, p_min, p_abs, Option.bind_some, Option.bind_none, Option.toList_some, Option.toList_none, List.cons_append, List.nil_append, bI_eq0, bI_ne0, bI_ne1, bI_eq1, bI_01, eq_self, true_or, or_true, and_true, true_and, false_and, and_false, false_or, or_false, ite_true, ite_false, if_true, if_false, not_true, not_false_iff, Classical.not_not, nem, ite_not, ne_eq]
      · have a' : ¬ 0 ≤ lg_cmp s 0 := fun w => a ((lg_cmp_ge s 0).mp w)
        simp (decide := true) (disch := (first | assumption | (simp only [Sh_setI, Sm_setI, Sh_setL, Sm_setL]; assumption) | omega)) only [E_199, B_199_0, B_199_6, B_199_16, B_199_22, B_199_28, lg_eq0, z, lI_0, n0, a, a', bI_True, bI_False, p_max, p_min, p_abs, Option.bind_some, Option.bind_none, Option.toList_some, Option.toList_none, List.cons_append, List.nil_append, bI_eq0, bI_ne0, bI_ne1, bI_eq1, bI_01, eq_self, true_or, or_true, and_true, true_and, false_and, and_false, false_or, or_false, ite_true, ite_false, if_true, if_false, not_true, not_false_iff, Classical.not_not, nem, ite_not, ne_eq]
    obtain ⟨a9', e⟩ := m_euclid (d := d + 4) (h := h) (s := s) (n' := lI n) (p := nI p) n n s.toInt.natAbs vu (Nat.le_refl _) (by omega) (by omega)
    rw [head, e]
    unfold tabV
    rw [eg, Nat.max_eq_right (by omega)]
    generalize Nat.gcd s.toInt.natAbs n = g at *
    have gz : ¬ (lI g = 0) := by rw [lI_0 (by omega)]; omega
    match p, hp with
    | 0, _ => simp (decide := true) (disch := (first | assumption | (simp only [Sh_setI, Sm_setI, Sh_setL, Sm_setL]; assumption) | omega)) only [B_199_58, n_eqO, B_199_63, B_199_68, gz, bI_True, bI_False, p_max, p_min, p_abs, Option.bind_some, Option.bind_none, Option.toList_some, Option.toList_none, List.cons_append, List.nil_append, bI_eq0, bI_ne0, bI_ne1, bI_eq1, bI_01, eq_self, true_or, or_true, and_true, true_and, false_and, and_false, false_or, or_false, ite_true, ite_false, if_true, if_false, not_true, not_false_iff, Classical.not_not, nem, ite_not, ne_eq]
    | 1, _ =>
      simp (decide := true) (disch := (first | assumption | (simp only [Sh_setI, Sm_setI, Sh_setL, Sm_setL]; assumption) | omega)) only [B_199_58, n_eqO, B_199_67, B_199_68, gz, bI_True, bI_False, p_max, p_min, p_abs, Option.bind_some, Option.bind_none, Option.toList_some, Option.toList_none, List.cons_append, List.nil_append, bI_eq0, bI_ne0, bI_ne1, bI_eq1, bI_01, eq_self, true_or, or_true, and_true, true_and, false_and, and_false, false_or, or_false, ite_true, ite_false, if_true, if_false, not_true, not_false_iff, Classical.not_not, nem, ite_not, ne_eq]
theorem tabL_cg {m m' : am_M} {A : List tOp} {so bi v : Int32} (e : ∀ n, 57 ≤ n → n ≤ 84 → m' n = m n) (e2 : m' 56 1 = m 56 1) : ∀ (j c : Nat) (s : Int64) (n : Nat), tabL m' A so bi v j c s n = tabL m A so bi v j c s n := by
  have eb : ∀ c, tabB m' A so bi v c = tabB m A so bi v c := fun c => by
    have el := fun k => (lateF_cg (c := c) (k := k) (v := v) e e2).2.2
    unfold tabB heardB saysF
    rw [e 65 (by omega) (by omega), factF_cg e e2, el, e 72 (by omega) (by omega), e 69 (by omega) (by omega)]
    unfold farN yDr ySh
    rw [e 59 (by omega) (by omega), e 62 (by omega) (by omega), e 66 (by omega) (by omega), e 67 (by omega) (by omega)]
  intro j
  induction j with
  | zero => intro c s n; rfl
  | succ j ih =>
    intro c s n
    rw [tabL, tabL, eb, ih, ih, e 65 (by omega) (by omega), (lateF_cg e e2).2.2]
theorem s_table (R : Rel h) (hb : hk h < 900000) {x y k w : Int32} : Stq (d + 25) 103 197 [vi x, vi y, vi k, vi w] h := by
  obtain ⟨S, T, I, C, L⟩ := id R
  have b1 : hI h 1 7 = hI h 56 0 := C.1.1
  rcases in_M x 1 (M := 1) rfl (by decide) with ⟨so, hso, rfl⟩ | hx
  · have hso' : nI so = 0 ∨ nI so = 1 := by
      match so, hso with
      | 0, _ => exact Or.inl rfl
      | 1, _ => exact Or.inr rfl
    by_cases hy : 0 ≤ y ∧ y ≤ 17
    · by_cases hk : 0 ≤ k ∧ k ≤ hI h 56 0
      · rcases in_M w 1 (M := 1) rfl (by decide) with ⟨p, hp, rfl⟩ | hw
        · obtain ⟨ht, n0, A, B, X⟩ := rule_env I C
          obtain ⟨h1, a9', a10', e1, F1⟩ := c_tab (d := d) S I C X (so := nI so) (bi := y) (v := k) (p := nI p) (yC (hI h)) 0 0 0 h vu vu (by omega) (by omega) Ft.rf
          have q3 : yC (hI h) ≤ 40 := I.2.2.2.1.1.2
          obtain ⟨t1, t2, t3⟩ := tabL_ok (m := hI h) (A := A) (sort := nI so) (bin := y) (v := k) (yC (hI h)) 0 0 0 (by omega) (by omega) (fun _ => rfl) (by decide)
          refine stp_pure (v := vl (tabV (tabL (hI h) A (nI so) y k (yC (hI h)) 0 0 0).1 (tabL (hI h) A (nI so) y k (yC (hI h)) 0 0 0).2 p)) R hb ?_ (F1.kp C X ht) (fun R1 ag => ?_)
          · simp (decide := true) (disch := (first | assumption | (simp only [Sh_setI, Sm_setI, Sh_setL, Sm_setL]; assumption) | omega)) only [E_103, B_103_0, B_103_4, B_103_7, B_103_14, B_103_17, B_103_22, B_103_25, B_103_32, B_103_39, c_isSort, hso', c_isIn, hy, c_isDay S, b1, hk, n_Ole, n_leO, Nat.zero_le, hp, bI_True, bI_False, p_max, p_min, p_abs, Option.bind_some, Option.bind_none, Option.toList_some, Option.toList_none, List.cons_append, List.nil_append, bI_eq0, bI_ne0, bI_ne1, bI_eq1, bI_01, eq_self, true_or, or_true, and_true, true_and, false_and, and_false, false_or, or_false, ite_true, ite_false, if_true, if_false, not_true, not_false_iff, Classical.not_not, nem, ite_not, ne_eq]
            refine e1.trans ?_
            exact c_tabE (d := d + 12) t1 hp
          · have T1 := R1.2.1
            have e1' : ∀ n, 57 ≤ n → n ≤ 84 → hI h1 n = hI h n := fun n q1 q2 => ag n (by omega) (by omega)
            have e56 : hI h1 56 = hI h 56 := ag 56 (by omega) (by omega)
            have hk' : 0 ≤ k ∧ k ≤ hI h1 56 0 := by rw [e56]; exact hk
            have X1 : textAt_ (hI h1) h (cl (hI h1 56 26)) n0 A B := by rw [e56]; exact textAt_cg (e1' 74 (by omega) (by omega)) (e1' 75 (by omega) (by omega)) X
            have yc : yC (hI h1) = yC (hI h) := by unfold yC; rw [e56]
            obtain ⟨h2, a9', a10', e2, F2⟩ := m_tab (d := d) T1 R1.2.2.1 X1 (so := nI so) (bi := y) (v := k) (p := nI p) (yC (hI h)) 0 0 0 h1 vu vu (by omega) (by omega) Fi.rf
            rw [tabL_cg e1' (by rw [e56])] at e2
            refine ⟨h2, ?_, F2.km (fun n q => by omega)⟩
            have hs2 : 0 ≤ nI so ∧ nI so ≤ 1 := ⟨nI_pos' (by omega), nI_le (b := 1) hso (by omega)⟩
            simp (decide := true) (disch := (first | assumption | (simp only [Sh_setI, Sm_setI, Sh_setL, Sm_setL]; assumption) | omega)) only [E_197, B_197_0, B_197_6, B_197_9, B_197_16, B_197_19, B_197_24, B_197_27, B_197_34, B_197_41, m_in, hs2, hy, m_isKnown T1, hk', n_Ole, n_leO, Nat.zero_le, hp, bI_True, bI_False, p_max, p_min, p_abs, Option.bind_some, Option.bind_none, Option.toList_some, Option.toList_none, List.cons_append, List.nil_append, bI_eq0, bI_ne0, bI_ne1, bI_eq1, bI_01, eq_self, true_or, or_true, and_true, true_and, false_and, and_false, false_or, or_false, ite_true, ite_false, if_true, if_false, not_true, not_false_iff, Classical.not_not, nem, ite_not, ne_eq]
            refine e2.trans ?_
            have ml := m_lowest (d := d + 16) (h := h2) t1 hp t2 t3
            simp (decide := true) (disch := (first | assumption | (simp only [Sh_setI, Sm_setI, Sh_setL, Sm_setL]; assumption) | omega)) only [B_197_166, ml, B_197_175, bI_True, bI_False, p_max, p_min, p_abs, Option.bind_some, Option.bind_none, Option.toList_some, Option.toList_none, List.cons_append, List.nil_append, bI_eq0, bI_ne0, bI_ne1, bI_eq1, bI_01, eq_self, true_or, or_true, and_true, true_and, false_and, and_false, false_or, or_false, ite_true, ite_false, if_true, if_false, not_true, not_false_iff, Classical.not_not, nem, ite_not, ne_eq]
        · exact stp_same (v := vl (-4611686018427387904)) R (by simp (decide := true) (disch := (first | assumption | (simp only [Sh_setI, Sm_setI, Sh_setL, Sm_setL]; assumption) | omega)) only [E_103, B_103_0, B_103_4, B_103_7, B_103_14, B_103_17, B_103_22, B_103_25, B_103_32, B_103_35, c_isSort, hso', c_isIn, hy, c_isDay S, b1, hk, hw, bI_True, bI_False, p_max, p_min, p_abs, Option.bind_some, Option.bind_none, Option.toList_some, Option.toList_none, List.cons_append, List.nil_append, bI_eq0, bI_ne0, bI_ne1, bI_eq1, bI_01, eq_self, true_or, or_true, and_true, true_and, false_and, and_false, false_or, or_false, ite_true, ite_false, if_true, if_false, not_true, not_false_iff, Classical.not_not, nem, ite_not, ne_eq]) (by
            have hs2 : 0 ≤ nI so ∧ nI so ≤ 1 := ⟨nI_pos' (by omega), nI_le (b := 1) hso (by omega)⟩
            simp (decide := true) (disch := (first | assumption | (simp only [Sh_setI, Sm_setI, Sh_setL, Sm_setL]; assumption) | omega)) only [E_197, B_197_0, B_197_6, B_197_9, B_197_16, B_197_19, B_197_24, B_197_27, B_197_34, B_197_37, m_in, hs2, hy, m_isKnown T, hk, hw, bI_True, bI_False, p_max, p_min, p_abs, Option.bind_some, Option.bind_none, Option.toList_some, Option.toList_none, List.cons_append, List.nil_append, bI_eq0, bI_ne0, bI_ne1, bI_eq1, bI_01, eq_self, true_or, or_true, and_true, true_and, false_and, and_false, false_or, or_false, ite_true, ite_false, if_true, if_false, not_true, not_false_iff, Classical.not_not, nem, ite_not, ne_eq])
      · exact stp_same (v := vl (-4611686018427387904)) R (by simp (decide := true) (disch := (first | assumption | (simp only [Sh_setI, Sm_setI, Sh_setL, Sm_setL]; assumption) | omega)) only [E_103, B_103_0, B_103_4, B_103_7, B_103_14, B_103_17, B_103_22, B_103_35, c_isSort, hso', c_isIn, hy, c_isDay S, b1, hk, bI_True, bI_False, p_max, p_min, p_abs, Option.bind_some, Option.bind_none, Option.toList_some, Option.toList_none, List.cons_append, List.nil_append, bI_eq0, bI_ne0, bI_ne1, bI_eq1, bI_01, eq_self, true_or, or_true, and_true, true_and, false_and, and_false, false_or, or_false, ite_true, ite_false, if_true, if_false, not_true, not_false_iff, Classical.not_not, nem, ite_not, ne_eq]) (by
            have hs2 : 0 ≤ nI so ∧ nI so ≤ 1 := ⟨nI_pos' (by omega), nI_le (b := 1) hso (by omega)⟩
            simp (decide := true) (disch := (first | assumption | (simp only [Sh_setI, Sm_setI, Sh_setL, Sm_setL]; assumption) | omega)) only [E_197, B_197_0, B_197_6, B_197_9, B_197_16, B_197_19, B_197_24, B_197_37, m_in, hs2, hy, m_isKnown T, hk, bI_True, bI_False, p_max, p_min, p_abs, Option.bind_some, Option.bind_none, Option.toList_some, Option.toList_none, List.cons_append, List.nil_append, bI_eq0, bI_ne0, bI_ne1, bI_eq1, bI_01, eq_self, true_or, or_true, and_true, true_and, false_and, and_false, false_or, or_false, ite_true, ite_false, if_true, if_false, not_true, not_false_iff, Classical.not_not, nem, ite_not, ne_eq])
    · exact stp_same (v := vl (-4611686018427387904)) R (by simp (decide := true) (disch := (first | assumption | (simp only [Sh_setI, Sm_setI, Sh_setL, Sm_setL]; assumption) | omega)) only [E_103, B_103_0, B_103_4, B_103_7, B_103_14, B_103_35, c_isSort, hso', c_isIn, hy, bI_True, bI_False, p_max, p_min, p_abs, Option.bind_some, Option.bind_none, Option.toList_some, Option.toList_none, List.cons_append, List.nil_append, bI_eq0, bI_ne0, bI_ne1, bI_eq1, bI_01, eq_self, true_or, or_true, and_true, true_and, false_and, and_false, false_or, or_false, ite_true, ite_false, if_true, if_false, not_true, not_false_iff, Classical.not_not, nem, ite_not, ne_eq]) (by
            have hs2 : 0 ≤ nI so ∧ nI so ≤ 1 := ⟨nI_pos' (by omega), nI_le (b := 1) hso (by omega)⟩
            simp (decide := true) (disch := (first | assumption | (simp only [Sh_setI, Sm_setI, Sh_setL, Sm_setL]; assumption) | omega)) only [E_197, B_197_0, B_197_6, B_197_9, B_197_16, B_197_37, m_in, hs2, hy, bI_True, bI_False, p_max, p_min, p_abs, Option.bind_some, Option.bind_none, Option.toList_some, Option.toList_none, List.cons_append, List.nil_append, bI_eq0, bI_ne0, bI_ne1, bI_eq1, bI_01, eq_self, true_or, or_true, and_true, true_and, false_and, and_false, false_or, or_false, ite_true, ite_false, if_true, if_false, not_true, not_false_iff, Classical.not_not, nem, ite_not, ne_eq])
  · have hx' : ¬ (x = 0 ∨ x = 1) := fun q => hx (by rcases q with rfl | rfl <;> decide)
    exact stp_same (v := vl (-4611686018427387904)) R (by simp (decide := true) (disch := (first | assumption | (simp only [Sh_setI, Sm_setI, Sh_setL, Sm_setL]; assumption) | omega)) only [E_103, B_103_0, B_103_4, B_103_35, c_isSort, hx', bI_True, bI_False, p_max, p_min, p_abs, Option.bind_some, Option.bind_none, Option.toList_some, Option.toList_none, List.cons_append, List.nil_append, bI_eq0, bI_ne0, bI_ne1, bI_eq1, bI_01, eq_self, true_or, or_true, and_true, true_and, false_and, and_false, false_or, or_false, ite_true, ite_false, if_true, if_false, not_true, not_false_iff, Classical.not_not, nem, ite_not, ne_eq]) (by simp (decide := true) (disch := (first | assumption | (simp only [Sh_setI, Sm_setI, Sh_setL, Sm_setL]; assumption) | omega)) only [E_197, B_197_0, B_197_6, B_197_37, m_in, hx, bI_True, bI_False, p_max, p_min, p_abs, Option.bind_some, Option.bind_none, Option.toList_some, Option.toList_none, List.cons_append, List.nil_append, bI_eq0, bI_ne0, bI_ne1, bI_eq1, bI_01, eq_self, true_or, or_true, and_true, true_and, false_and, and_false, false_or, or_false, ite_true, ite_false, if_true, if_false, not_true, not_false_iff, Classical.not_not, nem, ite_not, ne_eq])
end TABLE3
