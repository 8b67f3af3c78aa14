/-! table, the loops -/
section TABLE2
variable {d : Nat} {h : am_H} {m : am_M}
theorem bin_c {f : Nat} (hf : f ≤ 180) : (if nI f / 10 < 17 then nI f / 10 else 17) = nI (binN f) := by
  have e : nI f / 10 = nI (f / 10) := pk_div (a := f) (d := 10) (by omega) (by omega) (by omega)
  have e2 : (nI (f / 10) < 17) = (f / 10 < 17) := n_ltO (by omega) (by decide)
  rw [e]
  unfold binN
  by_cases a : f / 10 < 17
  · rw [if_pos (by rw [e2]; exact a), if_pos (by omega)]
  · rw [if_neg (by rw [e2]; exact a)]
    by_cases b : f / 10 ≤ 17
    · rw [if_pos b, show f / 10 = 17 by omega]; rfl
    · rw [if_neg b]; rfl
theorem bin_m {f : Nat} (hf : f ≤ 180) : (nI f / 10 ≤ 17) = (f / 10 ≤ 17) ∧ nI f / 10 = nI (f / 10) := by
  have e : nI f / 10 = nI (f / 10) := pk_div (a := f) (d := 10) (by omega) (by omega) (by omega)
  refine ⟨?_, e⟩
  rw [e]
  exact n_leO (by omega) (by decide)
theorem c_stands {c n dn sn : Nat} (E : Cd m h c n dn sn) (J : Ci m c) {so bi : Int32} : Cl (d + 10) 104 [vr (some n), vi so, vi bi] h = some (some (vi (bI (bI (m 65 c = 1 ∨ m 65 c = 4 ∨ m 65 c = 5) = so ∧ nI (binN (farN m c)) = bi))), h) := by
  have ef := fun d => c_far (d := d) E J
  have hf := farN_le J
  have r2 := E.2.1.2.1
  have e0 := E.2.2.1.1
  by_cases a : bI (m 65 c = 1 ∨ m 65 c = 4 ∨ m 65 c = 5) = so
  · by_cases b : nI (binN (farN m c)) = bi
    · simp (decide := true) (disch := (first | assumption | (simp only [Sh_setI, Sm_setI, Sh_setL, Sm_setL]; assumption) | omega)) only [E_104, B_104_0, B_104_7, B_104_11, B_104_17, B_104_23, B_104_27, B_104_32, r2, e0, c_sortOf, a, ef, bin_c, b, bI_True, bI_False, p_max, p_min, p_abs, Option.bind_some, Option.bind_none, Option.toList_some, Option.toList_none, List.cons_append, List.nil_append, bI_eq0, bI_ne0, bI_ne1, bI_eq1, bI_01, eq_self, true_or, or_true, and_true, true_and, false_and, and_false, false_or, or_false, ite_true, ite_false, if_true, if_false, not_true, not_false_iff, Classical.not_not, nem, ite_not, ne_eq]
    · simp (decide := true) (disch := (first | assumption | (simp only [Sh_setI, Sm_setI, Sh_setL, Sm_setL]; assumption) | omega)) only [E_104, B_104_0, B_104_7, B_104_11, B_104_17, B_104_23, B_104_31, B_104_32, r2, e0, c_sortOf, a, ef, bin_c, b, bI_True, bI_False, p_max, p_min, p_abs, Option.bind_some, Option.bind_none, Option.toList_some, Option.toList_none, List.cons_append, List.nil_append, bI_eq0, bI_ne0, bI_ne1, bI_eq1, bI_01, eq_self, true_or, or_true, and_true, true_and, false_and, and_false, false_or, or_false, ite_true, ite_false, if_true, if_false, not_true, not_false_iff, Classical.not_not, nem, ite_not, ne_eq]
  · simp (decide := true) (disch := (first | assumption | (simp only [Sh_setI, Sm_setI, Sh_setL, Sm_setL]; assumption) | omega)) only [E_104, B_104_0, B_104_7, B_104_31, B_104_32, r2, e0, c_sortOf, a, bI_True, bI_False, p_max, p_min, p_abs, Option.bind_some, Option.bind_none, Option.toList_some, Option.toList_none, List.cons_append, List.nil_append, bI_eq0, bI_ne0, bI_ne1, bI_eq1, bI_01, eq_self, true_or, or_true, and_true, true_and, false_and, and_false, false_or, or_false, ite_true, ite_false, if_true, if_false, not_true, not_false_iff, Classical.not_not, nem, ite_not, ne_eq]
theorem c_tab (S : Sh h) (I : Inv m) (C : CR m h) {n0 : Nat} {A B : List tOp} (X : textAt_ m h (cl (m 56 26)) n0 A B) {so bi v p : Int32} : ∀ (j c n : Nat) (s : Int64) (h' : am_H) (a9 a10 : am_V), c + j = yC m → n ≤ c → Ft n0 h h' → ∃ h1 a9' a10', Ev (d + 25) 103 48 [vr (some 1), vi so, vi bi, vi v, vi p, vl s, vu, vi (nI n), vi (nI c), a9, a10] [] h' = Ev (d + 25) 103 141 [vr (some 1), vi so, vi bi, vi v, vi p, vl (tabL m A so bi v j c s n).1, vu, vi (nI (tabL m A so bi v j c s n).2), vi (nI (yC m)), a9', a10'] [] h1 ∧ Ft n0 h h1 := by
  have q1 : hI h 1 6 = m 56 12 := C.2.2.2.1.1
  have q2 : m 56 12 = nI (yC m) := I.2.2.2.1.1.1
  have q3 : yC m ≤ 40 := I.2.2.2.1.1.2
  have ht : cl (m 56 26) < yT m := I.2.2.2.2.1.2.2.2
  intro j
  induction j with
  | zero =>
    intro c n s h' a9 a10 e hn F
    have S' := F.sh S
    have : c = yC m := by omega
    subst this
    refine ⟨h', a9, a10, ?_, F⟩
    have q1' : hI h' 1 6 = m 56 12 := ((F.kp C X ht).kq.cr S C).2.2.2.1.1
    rw [B_103_48 S', q1', q2]
    simp (decide := true) (disch := (first | assumption | (simp only [Sh_setI, Sm_setI, Sh_setL, Sm_setL]; assumption) | omega)) only [n_le, Nat.le_refl, tabL, bI_True, bI_False, p_max, p_min, p_abs, Option.bind_some, Option.bind_none, Option.toList_some, Option.toList_none, List.cons_append, List.nil_append, bI_eq0, bI_ne0, bI_ne1, bI_eq1, bI_01, eq_self, true_or, or_true, and_true, true_and, false_and, and_false, false_or, or_false, ite_true, ite_false, if_true, if_false, not_true, not_false_iff, Classical.not_not, nem, ite_not, ne_eq]
  | succ j ih =>
    intro c n s h' a9 a10 e hn F
    have hc : c < yC m := by omega
    have S' := F.sh S
    have C' : CR m h' := (F.kp C X ht).kq.cr S C
    have X' := tx_ft X F
    have q1' : hI h' 1 6 = m 56 12 := C'.2.2.2.1.1
    obtain ⟨nn, dn, sn, E⟩ := card_env I C' hc
    have J := card_int I hc
    obtain ⟨kd, hkd', ekd⟩ := J.1
    have ec := fun d => c_cardAt (d := d) S' (q1'.trans q2) q3 hc
    have el := fun d => c_lateness (d := d) S' C'.1 I E J hkd' (v := v)
    have eh := fun d => c_isHeard (d := d) E (v := v)
    have es := fun d => c_stands (d := d) E J (so := so) (bi := bi)
    have r1 := E.2.1.1
    have r2 := E.2.1.2.1
    have e0k : hI h' nn 0 = nI kd := E.2.2.1.1.trans ekd
    have ekd2 : cl (m 65 c) = kd := by rw [ekd, cl, n_cl (by omega)]
    have B48 : Ev (d + 25) 103 48 [vr (some 1), vi so, vi bi, vi v, vi p, vl s, vu, vi (nI n), vi (nI c), a9, a10] [] h' = Ev (d + 25) 103 71 [vr (some 1), vi so, vi bi, vi v, vi p, vl s, vu, vi (nI n), vi (nI c), vr (some nn), a10] [vi (bI (heardB m c v = true))] h' := by
      rw [B_103_48 S', q1', q2]
      simp (decide := true) (disch := (first | assumption | (simp only [Sh_setI, Sm_setI, Sh_setL, Sm_setL]; assumption) | omega)) only [n_le, show ¬ yC m ≤ c by omega, B_103_57 S', ec, r1, B_103_63, eh, bI_True, bI_False, p_max, p_min, p_abs, Option.bind_some, Option.bind_none, Option.toList_some, Option.toList_none, List.cons_append, List.nil_append, bI_eq0, bI_ne0, bI_ne1, bI_eq1, bI_01, eq_self, true_or, or_true, and_true, true_and, false_and, and_false, false_or, or_false, ite_true, ite_false, if_true, if_false, not_true, not_false_iff, Classical.not_not, nem, ite_not, ne_eq]
    rw [B48, tabL]
    have no : tabB m A so bi v c = false → (∃ b10, Ev (d + 25) 103 71 [vr (some 1), vi so, vi bi, vi v, vi p, vl s, vu, vi (nI n), vi (nI c), vr (some nn), a10] [vi (bI (heardB m c v = true))] h' = Ev (d + 25) 103 135 [vr (some 1), vi so, vi bi, vi v, vi p, vl s, vu, vi (nI n), vi (nI c), vr (some nn), vi b10] [] h') → ∃ h1 a9' a10', Ev (d + 25) 103 71 [vr (some 1), vi so, vi bi, vi v, vi p, vl s, vu, vi (nI n), vi (nI c), vr (some nn), a10] [vi (bI (heardB m c v = true))] h' = Ev (d + 25) 103 141 [vr (some 1), vi so, vi bi, vi v, vi p, vl (if tabB m A so bi v c = true then tabL m A so bi v j (c + 1) (s + (lateF m c (cl (m 65 c)) v).toInt64) (n + 1) else tabL m A so bi v j (c + 1) s n).1, vu, vi (nI (if tabB m A so bi v c = true then tabL m A so bi v j (c + 1) (s + (lateF m c (cl (m 65 c)) v).toInt64) (n + 1) else tabL m A so bi v j (c + 1) s n).2), vi (nI (yC m)), a9', a10'] [] h1 ∧ Ft n0 h h1 := by
      intro tb ⟨b10, e1⟩
      rw [tb, if_neg (by decide)]
      obtain ⟨h1, a9', a10', e2, F2⟩ := ih (c + 1) n s h' (vr (some nn)) (vi b10) (by omega) (by omega) F
      refine ⟨h1, a9', a10', ?_, F2⟩
      rw [e1]
      simp (decide := true) (disch := (first | assumption | (simp only [Sh_setI, Sm_setI, Sh_setL, Sm_setL]; assumption) | omega)) only [B_103_135, n_addO, bI_True, bI_False, p_max, p_min, p_abs, Option.bind_some, Option.bind_none, Option.toList_some, Option.toList_none, List.cons_append, List.nil_append, bI_eq0, bI_ne0, bI_ne1, bI_eq1, bI_01, eq_self, true_or, or_true, and_true, true_and, false_and, and_false, false_or, or_false, ite_true, ite_false, if_true, if_false, not_true, not_false_iff, Classical.not_not, nem, ite_not, ne_eq]
      exact e2
    by_cases a : heardB m c v = true
    · by_cases b : bI (m 65 c = 1 ∨ m 65 c = 4 ∨ m 65 c = 5) = so ∧ nI (binN (farN m c)) = bi
      · by_cases l : lateF m c kd v = 1000000000
        · exact no (decide_eq_false (by rw [ekd2]; exact fun w => w.2.1 l)) ⟨lateF m c kd v, by simp (decide := true) (disch := (first | assumption | (simp only [Sh_setI, Sm_setI, Sh_setL, Sm_setL]; assumption) | omega)) only [a, B_103_71, B_103_74, es, b, B_103_81, B_103_84 S', r2, e0k, el, B_103_96, B_103_102, l, bI_True, bI_False, p_max, p_min, p_abs, Option.bind_some, Option.bind_none, Option.toList_some, Option.toList_none, List.cons_append, List.nil_append, bI_eq0, bI_ne0, bI_ne1, bI_eq1, bI_01, eq_self, true_or, or_true, and_true, true_and, false_and, and_false, false_or, or_false, ite_true, ite_false, if_true, if_false, not_true, not_false_iff, Classical.not_not, nem, ite_not, ne_eq]⟩
        · obtain ⟨h1, er, F1⟩ := c_rule (d := d + 7) S' I C' E J X' (part := 0) (by omega) (late := lateF m c kd v)
          have B71 : Ev (d + 25) 103 71 [vr (some 1), vi so, vi bi, vi v, vi p, vl s, vu, vi (nI n), vi (nI c), vr (some nn), a10] [vi (bI (heardB m c v = true))] h' = Ev (d + 25) 103 121 [vr (some 1), vi so, vi bi, vi v, vi p, vl s, vu, vi (nI n), vi (nI c), vr (some nn), vi (lateF m c kd v)] [vi (saysF m c (lateF m c kd v) A)] h1 := by
            rw [show nI 0 = (0 : Int32) from rfl] at er
            simp (decide := true) (disch := (first | assumption | (simp only [Sh_setI, Sm_setI, Sh_setL, Sm_setL]; assumption) | omega)) only [a, B_103_71, B_103_74, es, b, B_103_81, B_103_84 S', r2, e0k, el, B_103_96, B_103_102, l, B_103_112 S', er, bI_True, bI_False, p_max, p_min, p_abs, Option.bind_some, Option.bind_none, Option.toList_some, Option.toList_none, List.cons_append, List.nil_append, bI_eq0, bI_ne0, bI_ne1, bI_eq1, bI_01, eq_self, true_or, or_true, and_true, true_and, false_and, and_false, false_or, or_false, ite_true, ite_false, if_true, if_false, not_true, not_false_iff, Classical.not_not, nem, ite_not, ne_eq]
          by_cases g : saysF m c (lateF m c kd v) A = 0
          · have tb : tabB m A so bi v c = false := decide_eq_false (by rw [ekd2]; exact fun w => w.2.2 g)
            rw [B71, tb, if_neg (by decide)]
            obtain ⟨h2, a9', a10', e2, F2⟩ := ih (c + 1) n s h1 (vr (some nn)) (vi (lateF m c kd v)) (by omega) (by omega) (F.tr F1)
            refine ⟨h2, a9', a10', ?_, F2⟩
            simp (decide := true) (disch := (first | assumption | (simp only [Sh_setI, Sm_setI, Sh_setL, Sm_setL]; assumption) | omega)) only [B_103_121, g, B_103_135, n_addO, bI_True, bI_False, p_max, p_min, p_abs, Option.bind_some, Option.bind_none, Option.toList_some, Option.toList_none, List.cons_append, List.nil_append, bI_eq0, bI_ne0, bI_ne1, bI_eq1, bI_01, eq_self, true_or, or_true, and_true, true_and, false_and, and_false, false_or, or_false, ite_true, ite_false, if_true, if_false, not_true, not_false_iff, Classical.not_not, nem, ite_not, ne_eq]
            exact e2
          · have tb : tabB m A so bi v c = true := decide_eq_true (by rw [ekd2]; exact ⟨⟨a, b⟩, l, g⟩)
            rw [B71, tb, if_pos rfl, ekd2]
            obtain ⟨h2, a9', a10', e2, F2⟩ := ih (c + 1) (n + 1) (s + (lateF m c kd v).toInt64) h1 (vr (some nn)) (vi (lateF m c kd v)) (by omega) (by omega) (F.tr F1)
            refine ⟨h2, a9', a10', ?_, F2⟩
            simp (decide := true) (disch := (first | assumption | (simp only [Sh_setI, Sm_setI, Sh_setL, Sm_setL]; assumption) | omega)) only [B_103_121, g, B_103_124, B_103_135, n_addO, bI_True, bI_False, p_max, p_min, p_abs, Option.bind_some, Option.bind_none, Option.toList_some, Option.toList_none, List.cons_append, List.nil_append, bI_eq0, bI_ne0, bI_ne1, bI_eq1, bI_01, eq_self, true_or, or_true, and_true, true_and, false_and, and_false, false_or, or_false, ite_true, ite_false, if_true, if_false, not_true, not_false_iff, Classical.not_not, nem, ite_not, ne_eq]
            exact e2
      · exact no (decide_eq_false (fun w => b w.1.2)) ⟨1000000000, by simp (decide := true) (disch := (first | assumption | (simp only [Sh_setI, Sm_setI, Sh_setL, Sm_setL]; assumption) | omega)) only [a, B_103_71, B_103_74, es, b, B_103_81, B_103_99, B_103_102, bI_True, bI_False, p_max, p_min, p_abs, Option.bind_some, Option.bind_none, Option.toList_some, Option.toList_none, List.cons_append, List.nil_append, bI_eq0, bI_ne0, bI_ne1, bI_eq1, bI_01, eq_self, true_or, or_true, and_true, true_and, false_and, and_false, false_or, or_false, ite_true, ite_false, if_true, if_false, not_true, not_false_iff, Classical.not_not, nem, ite_not, ne_eq]⟩
    · exact no (decide_eq_false (fun w => a w.1.1)) ⟨1000000000, by simp (decide := true) (disch := (first | assumption | (simp only [Sh_setI, Sm_setI, Sh_setL, Sm_setL]; assumption) | omega)) only [a, B_103_71, B_103_99, B_103_102, bI_True, bI_False, p_max, p_min, p_abs, Option.bind_some, Option.bind_none, Option.toList_some, Option.toList_none, List.cons_append, List.nil_append, bI_eq0, bI_ne0, bI_ne1, bI_eq1, bI_01, eq_self, true_or, or_true, and_true, true_and, false_and, and_false, false_or, or_false, ite_true, ite_false, if_true, if_false, not_true, not_false_iff, Classical.not_not, nem, ite_not, ne_eq]⟩
theorem m_sortK {k : Nat} (hk : k < 6) : Cl (d + 4) 198 [vi (nI k)] h = some (some (vi (bI (nI k = 1 ∨ nI k = 4 ∨ nI k = 5))), h) := by
  match k, hk with
  | 0, _ => simp (decide := true) (disch := (first | assumption | (simp only [Sh_setI, Sm_setI, Sh_setL, Sm_setL]; assumption) | omega)) only [E_198, B_198_0, B_198_5, B_198_10, B_198_14, B_198_15, n_eqO, n_ltO, bI_True, bI_False, p_max, p_min, p_abs, Option.bind_some, Option.bind_none, Option.toList_some, Option.toList_none, List.cons_append, List.nil_append, bI_eq0, bI_ne0, bI_ne1, bI_eq1, bI_01, eq_self, true_or, or_true, and_true, true_and, false_and, and_false, false_or, or_false, ite_true, ite_false, if_true, if_false, not_true, not_false_iff, Classical.not_not, nem, ite_not, ne_eq]
  | 1, _ => simp (decide := true) (disch := (first | assumption | (simp only [Sh_setI, Sm_setI, Sh_setL, Sm_setL]; assumption) | omega)) only [E_198, B_198_0, B_198_5, B_198_10, B_198_14, B_198_15, n_eqO, n_ltO, bI_True, bI_False, p_max, p_min, p_abs, Option.bind_some, Option.bind_none, Option.toList_some, Option.toList_none, List.cons_append, List.nil_append, bI_eq0, bI_ne0, bI_ne1, bI_eq1, bI_01, eq_self, true_or, or_true, and_true, true_and, false_and, and_false, false_or, or_false, ite_true, ite_false, if_true, if_false, not_true, not_false_iff, Classical.not_not, nem, ite_not, ne_eq]
  | 2, _ => simp (decide := true) (disch := (first | assumption | (simp only [Sh_setI, Sm_setI, Sh_setL, Sm_setL]; assumption) | omega)) only [E_198, B_198_0, B_198_5, B_198_10, B_198_14, B_198_15, n_eqO, n_ltO, bI_True, bI_False, p_max, p_min, p_abs, Option.bind_some, Option.bind_none, Option.toList_some, Option.toList_none, List.cons_append, List.nil_append, bI_eq0, bI_ne0, bI_ne1, bI_eq1, bI_01, eq_self, true_or, or_true, and_true, true_and, false_and, and_false, false_or, or_false, ite_true, ite_false, if_true, if_false, not_true, not_false_iff, Classical.not_not, nem, ite_not, ne_eq]
  | 3, _ => simp (decide := true) (disch := (first | assumption | (simp only [Sh_setI, Sm_setI, Sh_setL, Sm_setL]; assumption) | omega)) only [E_198, B_198_0, B_198_5, B_198_10, B_198_14, B_198_15, n_eqO, n_ltO, bI_True, bI_False, p_max, p_min, p_abs, Option.bind_some, Option.bind_none, Option.toList_some, Option.toList_none, List.cons_append, List.nil_append, bI_eq0, bI_ne0, bI_ne1, bI_eq1, bI_01, eq_self, true_or, or_true, and_true, true_and, false_and, and_false, false_or, or_false, ite_true, ite_false, if_true, if_false, not_true, not_false_iff, Classical.not_not, nem, ite_not, ne_eq]
  | 4, _ => simp (decide := true) (disch := (first | assumption | (simp only [Sh_setI, Sm_setI, Sh_setL, Sm_setL]; assumption) | omega)) only [E_198, B_198_0, B_198_5, B_198_10, B_198_14, B_198_15, n_eqO, n_ltO, bI_True, bI_False, p_max, p_min, p_abs, Option.bind_some, Option.bind_none, Option.toList_some, Option.toList_none, List.cons_append, List.nil_append, bI_eq0, bI_ne0, bI_ne1, bI_eq1, bI_01, eq_self, true_or, or_true, and_true, true_and, false_and, and_false, false_or, or_false, ite_true, ite_false, if_true, if_false, not_true, not_false_iff, Classical.not_not, nem, ite_not, ne_eq]
  | 5, _ => simp (decide := true) (disch := (first | assumption | (simp only [Sh_setI, Sm_setI, Sh_setL, Sm_setL]; assumption) | omega)) only [E_198, B_198_0, B_198_5, B_198_10, B_198_14, B_198_15, n_eqO, n_ltO, bI_True, bI_False, p_max, p_min, p_abs, Option.bind_some, Option.bind_none, Option.toList_some, Option.toList_none, List.cons_append, List.nil_append, bI_eq0, bI_ne0, bI_ne1, bI_eq1, bI_01, eq_self, true_or, or_true, and_true, true_and, false_and, and_false, false_or, or_false, ite_true, ite_false, if_true, if_false, not_true, not_false_iff, Classical.not_not, nem, ite_not, ne_eq]
theorem m_tab (T : Sm h) (I : Inv (hI h)) {hx : am_H} {n0 : Nat} {A B : List tOp} (X : textAt_ (hI h) hx (cl (hI h 56 26)) n0 A B) {so bi v p : Int32} : ∀ (j c n : Nat) (s : Int64) (h' : am_H) (a10 a11 : am_V), c + j = yC (hI h) → n ≤ c → Fi (fun a => a = 87) h h' → ∃ h1 a10' a11', Ev (d + 25) 197 50 [vr (some 56), vi so, vi bi, vi v, vi p, vl s, vu, vl (lI n), vu, vi (nI c), a10, a11] [] h' = Ev (d + 25) 197 166 [vr (some 56), vi so, vi bi, vi v, vi p, vl (tabL (hI h) A so bi v j c s n).1, vu, vl (lI (tabL (hI h) A so bi v j c s n).2), vu, vi (nI (yC (hI h))), a10', a11'] [] h1 ∧ Fi (fun a => a = 87) h h1 := by
  have q2 : hI h 56 12 = nI (yC (hI h)) := I.2.2.2.1.1.1
  have q3 : yC (hI h) ≤ 40 := I.2.2.2.1.1.2
  intro j
  induction j with
  | zero =>
    intro c n s h' a10 a11 e hn W
    have T' := W.sm T
    have : c = yC (hI h) := by omega
    subst this
    refine ⟨h', a10, a11, ?_, W⟩
    rw [B_197_50 T', W.2.2.2.2.2 56 (by omega), q2]
    simp (decide := true) (disch := (first | assumption | (simp only [Sh_setI, Sm_setI, Sh_setL, Sm_setL]; assumption) | omega)) only [n_le, Nat.le_refl, tabL, bI_True, bI_False, p_max, p_min, p_abs, Option.bind_some, Option.bind_none, Option.toList_some, Option.toList_none, List.cons_append, List.nil_append, bI_eq0, bI_ne0, bI_ne1, bI_eq1, bI_01, eq_self, true_or, or_true, and_true, true_and, false_and, and_false, false_or, or_false, ite_true, ite_false, if_true, if_false, not_true, not_false_iff, Classical.not_not, nem, ite_not, ne_eq]
  | succ j ih =>
    intro c n s h' a10 a11 e hn W
    have hc : c < yC (hI h) := by omega
    have hc40 : c < 40 := by omega
    have T' := W.sm T
    have st := W.2.2.2.2.2
    have e1 : ∀ n, 57 ≤ n → n ≤ 84 → hI h' n = hI h n := fun n q1 q2 => st n (by omega)
    have e56 : hI h' 56 = hI h 56 := st 56 (by omega)
    have I' : Inv (hI h') := Inv_cg e1 (fun f _ => by rw [e56]) I
    have J' : Ci (hI h') c := card_int I' (by unfold yC; rw [e56]; exact hc)
    have J := card_int I hc
    obtain ⟨kd, hkd', ekd⟩ := J.1
    have hf := farN_le J
    have ef : farN (hI h') c = farN (hI h) c := by unfold farN yDr ySh; rw [e1 59 (by omega) (by omega), e1 62 (by omega) (by omega), e1 66 (by omega) (by omega), e1 67 (by omega) (by omega)]
    have mf : ∀ d, Cl (d + 5) 172 [vr (some 56), vi (nI c)] h' = some (some (vi (nI (farN (hI h) c))), h') := fun d => by rw [m_farOf T' hc40 J', ef]
    have ml : ∀ d, Cl (d + 8) 170 [vr (some 56), vi (nI c), vi v] h' = some (some (vi (lateF (hI h) c kd v)), h') := fun d => by
      rw [m_lateOf T' I' hc40 J', e1 65 (by omega) (by omega), ekd, cl, n_cl (by omega), (lateF_cg e1 (by rw [e56])).2.2]
    have mh : ∀ d, Cl (d + 4) 195 [vr (some 56), vi (nI c), vi v] h' = some (some (vi (bI (heardB (hI h) c v = true))), h') := fun d => by
      rw [m_isHeard T' hc40]
      unfold heardB
      rw [e1 72 (by omega) (by omega), e1 69 (by omega) (by omega)]
    have mk : ∀ d, Cl (d + 4) 198 [vi (nI kd)] h' = some (some (vi (bI (hI h 65 c = 1 ∨ hI h 65 c = 4 ∨ hI h 65 c = 5))), h') := fun d => by rw [m_sortK hkd', ekd]
    have ekd2 : cl (hI h 65 c) = kd := by rw [ekd, cl, n_cl (by omega)]
    have ekd3 : hI h' 65 c = nI kd := by rw [e1 65 (by omega) (by omega)]; exact ekd
    have head : Ev (d + 25) 197 50 [vr (some 56), vi so, vi bi, vi v, vi p, vl s, vu, vl (lI n), vu, vi (nI c), a10, a11] [] h' = Ev (d + 25) 197 105 [vr (some 56), vi so, vi bi, vi v, vi p, vl s, vu, vl (lI n), vu, vi (nI c), vi (nI (binN (farN (hI h) c))), vi (lateF (hI h) c kd v)] [vi (bI (heardB (hI h) c v = true))] h' := by
      rw [B_197_50 T', e56, q2]
      simp (decide := true) (disch := (first | assumption | (simp only [Sh_setI, Sm_setI, Sh_setL, Sm_setL]; assumption) | omega)) only [n_le, show ¬ yC (hI h) ≤ c by omega, B_197_59 T', mf, B_197_65, (bin_m hf).1, bI_True, bI_False, p_max, p_min, p_abs, Option.bind_some, Option.bind_none, Option.toList_some, Option.toList_none, List.cons_append, List.nil_append, bI_eq0, bI_ne0, bI_ne1, bI_eq1, bI_01, eq_self, true_or, or_true, and_true, true_and, false_and, and_false, false_or, or_false, ite_true, ite_false, if_true, if_false, not_true, not_false_iff, Classical.not_not, nem, ite_not, ne_eq]
      unfold binN
      by_cases b : farN (hI h) c / 10 ≤ 17
      · simp (decide := true) (disch := (first | assumption | (simp only [Sh_setI, Sm_setI, Sh_setL, Sm_setL]; assumption) | omega)) only [b, B_197_78 T', mf, B_197_84, (bin_m hf).2, B_197_87 T', ml, B_197_96 T', mh, bI_True, bI_False, p_max, p_min, p_abs, Option.bind_some, Option.bind_none, Option.toList_some, Option.toList_none, List.cons_append, List.nil_append, bI_eq0, bI_ne0, bI_ne1, bI_eq1, bI_01, eq_self, true_or, or_true, and_true, true_and, false_and, and_false, false_or, or_false, ite_true, ite_false, if_true, if_false, not_true, not_false_iff, Classical.not_not, nem, ite_not, ne_eq]
      · simp (decide := true) (disch := (first | assumption | (simp only [Sh_setI, Sm_setI, Sh_setL, Sm_setL]; assumption) | omega)) only [b, B_197_73, B_197_87 T', ml, B_197_96 T', mh, bI_True, bI_False, p_max, p_min, p_abs, Option.bind_some, Option.bind_none, Option.toList_some, Option.toList_none, List.cons_append, List.nil_append, bI_eq0, bI_ne0, bI_ne1, bI_eq1, bI_01, eq_self, true_or, or_true, and_true, true_and, false_and, and_false, false_or, or_false, ite_true, ite_false, if_true, if_false, not_true, not_false_iff, Classical.not_not, nem, ite_not, ne_eq]
        rfl
    rw [head, tabL]
    have no : tabB (hI h) A so bi v c = false → (Ev (d + 25) 197 105 [vr (some 56), vi so, vi bi, vi v, vi p, vl s, vu, vl (lI n), vu, vi (nI c), vi (nI (binN (farN (hI h) c))), vi (lateF (hI h) c kd v)] [vi (bI (heardB (hI h) c v = true))] h' = Ev (d + 25) 197 160 [vr (some 56), vi so, vi bi, vi v, vi p, vl s, vu, vl (lI n), vu, vi (nI c), vi (nI (binN (farN (hI h) c))), vi (lateF (hI h) c kd v)] [] h') → ∃ h1 a10' a11', Ev (d + 25) 197 105 [vr (some 56), vi so, vi bi, vi v, vi p, vl s, vu, vl (lI n), vu, vi (nI c), vi (nI (binN (farN (hI h) c))), vi (lateF (hI h) c kd v)] [vi (bI (heardB (hI h) c v = true))] h' = Ev (d + 25) 197 166 [vr (some 56), vi so, vi bi, vi v, vi p, vl (if tabB (hI h) A so bi v c = true then tabL (hI h) A so bi v j (c + 1) (s + (lateF (hI h) c (cl (hI h 65 c)) v).toInt64) (n + 1) else tabL (hI h) A so bi v j (c + 1) s n).1, vu, vl (lI (if tabB (hI h) A so bi v c = true then tabL (hI h) A so bi v j (c + 1) (s + (lateF (hI h) c (cl (hI h 65 c)) v).toInt64) (n + 1) else tabL (hI h) A so bi v j (c + 1) s n).2), vu, vi (nI (yC (hI h))), a10', a11'] [] h1 ∧ Fi (fun a => a = 87) h h1 := by
      intro tb e1
      rw [tb, if_neg (by decide)]
      obtain ⟨h1, a9', a10', e2, F2⟩ := ih (c + 1) n s h' (vi (nI (binN (farN (hI h) c)))) (vi (lateF (hI h) c kd v)) (by omega) (by omega) W
      refine ⟨h1, a9', a10', ?_, F2⟩
      rw [e1]
      simp (decide := true) (disch := (first | assumption | (simp only [Sh_setI, Sm_setI, Sh_setL, Sm_setL]; assumption) | omega)) only [B_197_160, n_addO, bI_True, bI_False, p_max, p_min, p_abs, Option.bind_some, Option.bind_none, Option.toList_some, Option.toList_none, List.cons_append, List.nil_append, bI_eq0, bI_ne0, bI_ne1, bI_eq1, bI_01, eq_self, true_or, or_true, and_true, true_and, false_and, and_false, false_or, or_false, ite_true, ite_false, if_true, if_false, not_true, not_false_iff, Classical.not_not, nem, ite_not, ne_eq]
      exact e2
    by_cases a : heardB (hI h) c v = true
    · by_cases b1 : bI (hI h 65 c = 1 ∨ hI h 65 c = 4 ∨ hI h 65 c = 5) = so
      · by_cases b2 : nI (binN (farN (hI h) c)) = bi
        · by_cases l : lateF (hI h) c kd v = 1000000000
          · exact no (decide_eq_false (by rw [ekd2]; exact fun w => w.2.1 l)) (by simp (decide := true) (disch := (first | assumption | (simp only [Sh_setI, Sm_setI, Sh_setL, Sm_setL]; assumption) | omega)) only [a, B_197_105, B_197_108 T', n_ix, n_cl, ekd3, mk, b1, B_197_118, B_197_122, b2, B_197_128, l, bI_True, bI_False, p_max, p_min, p_abs, Option.bind_some, Option.bind_none, Option.toList_some, Option.toList_none, List.cons_append, List.nil_append, bI_eq0, bI_ne0, bI_ne1, bI_eq1, bI_01, eq_self, true_or, or_true, and_true, true_and, false_and, and_false, false_or, or_false, ite_true, ite_false, if_true, if_false, not_true, not_false_iff, Classical.not_not, nem, ite_not, ne_eq])
          · have yc' : c < yC (hI h') := by unfold yC; rw [e56]; exact hc
            have X2 : textAt_ (hI h') hx (cl (hI h' 56 26)) n0 A B := by rw [e56]; exact textAt_cg (e1 74 (by omega) (by omega)) (e1 75 (by omega) (by omega)) X
            obtain ⟨h1, er, F1⟩ := m_worth (d := d + 7) T' I' yc' X2 (part := 0) (by omega) (v := v)
            have es : saysF (hI h') c (lateF (hI h') c (cl (hI h' 65 c)) v) (if 0 = 0 then A else B) = saysF (hI h) c (lateF (hI h) c kd v) A := by
              rw [if_pos rfl]
              unfold saysF
              rw [e1 65 (by omega) (by omega), ekd2, factF_cg e1 (by rw [e56])]
            rw [es, show nI 0 = (0 : Int32) from rfl] at er
            have B105 : Ev (d + 25) 197 105 [vr (some 56), vi so, vi bi, vi v, vi p, vl s, vu, vl (lI n), vu, vi (nI c), vi (nI (binN (farN (hI h) c))), vi (lateF (hI h) c kd v)] [vi (bI (heardB (hI h) c v = true))] h' = Ev (d + 25) 197 143 [vr (some 56), vi so, vi bi, vi v, vi p, vl s, vu, vl (lI n), vu, vi (nI c), vi (nI (binN (farN (hI h) c))), vi (lateF (hI h) c kd v)] [vi (saysF (hI h) c (lateF (hI h) c kd v) A)] h1 := by
              simp (decide := true) (disch := (first | assumption | (simp only [Sh_setI, Sm_setI, Sh_setL, Sm_setL]; assumption) | omega)) only [a, B_197_105, B_197_108 T', n_ix, n_cl, ekd3, mk, b1, B_197_118, B_197_122, b2, B_197_128, l, B_197_135 T', er, bI_True, bI_False, p_max, p_min, p_abs, Option.bind_some, Option.bind_none, Option.toList_some, Option.toList_none, List.cons_append, List.nil_append, bI_eq0, bI_ne0, bI_ne1, bI_eq1, bI_01, eq_self, true_or, or_true, and_true, true_and, false_and, and_false, false_or, or_false, ite_true, ite_false, if_true, if_false, not_true, not_false_iff, Classical.not_not, nem, ite_not, ne_eq]
            by_cases g : saysF (hI h) c (lateF (hI h) c kd v) A = 0
            · have tb : tabB (hI h) A so bi v c = false := decide_eq_false (by rw [ekd2]; exact fun w => w.2.2 g)
              rw [B105, tb, if_neg (by decide)]
              obtain ⟨h2, a9', a10', e2, F2⟩ := ih (c + 1) n s h1 (vi (nI (binN (farN (hI h) c)))) (vi (lateF (hI h) c kd v)) (by omega) (by omega) (W.tr F1)
              refine ⟨h2, a9', a10', ?_, F2⟩
              simp (decide := true) (disch := (first | assumption | (simp only [Sh_setI, Sm_setI, Sh_setL, Sm_setL]; assumption) | omega)) only [B_197_143, g, B_197_160, n_addO, bI_True, bI_False, p_max, p_min, p_abs, Option.bind_some, Option.bind_none, Option.toList_some, Option.toList_none, List.cons_append, List.nil_append, bI_eq0, bI_ne0, bI_ne1, bI_eq1, bI_01, eq_self, true_or, or_true, and_true, true_and, false_and, and_false, false_or, or_false, ite_true, ite_false, if_true, if_false, not_true, not_false_iff, Classical.not_not, nem, ite_not, ne_eq]
              exact e2
            · have tb : tabB (hI h) A so bi v c = true := decide_eq_true (by rw [ekd2]; exact ⟨⟨a, b1, b2⟩, l, g⟩)
              rw [B105, tb, if_pos rfl, ekd2]
              obtain ⟨h2, a9', a10', e2, F2⟩ := ih (c + 1) (n + 1) (s + (lateF (hI h) c kd v).toInt64) h1 (vi (nI (binN (farN (hI h) c)))) (vi (lateF (hI h) c kd v)) (by omega) (by omega) (W.tr F1)
              refine ⟨h2, a9', a10', ?_, F2⟩
              have l1 : lI n + 1 = lI (n + 1) := (Int64.ofNat_add n 1).symm
              simp (decide := true) (disch := (first | assumption | (simp only [Sh_setI, Sm_setI, Sh_setL, Sm_setL]; assumption) | omega)) only [B_197_143, g, B_197_146, B_197_160, n_addO, l1, bI_True, bI_False, p_max, p_min, p_abs, Option.bind_some, Option.bind_none, Option.toList_some, Option.toList_none, List.cons_append, List.nil_append, bI_eq0, bI_ne0, bI_ne1, bI_eq1, bI_01, eq_self, true_or, or_true, and_true, true_and, false_and, and_false, false_or, or_false, ite_true, ite_false, if_true, if_false, not_true, not_false_iff, Classical.not_not, nem, ite_not, ne_eq]
              exact e2
        · exact no (decide_eq_false (fun w => b2 w.1.2.2)) (by simp (decide := true) (disch := (first | assumption | (simp only [Sh_setI, Sm_setI, Sh_setL, Sm_setL]; assumption) | omega)) only [a, B_197_105, B_197_108 T', n_ix, n_cl, ekd3, mk, b1, B_197_118, B_197_122, b2, bI_True, bI_False, p_max, p_min, p_abs, Option.bind_some, Option.bind_none, Option.toList_some, Option.toList_none, List.cons_append, List.nil_append, bI_eq0, bI_ne0, bI_ne1, bI_eq1, bI_01, eq_self, true_or, or_true, and_true, true_and, false_and, and_false, false_or, or_false, ite_true, ite_false, if_true, if_false, not_true, not_false_iff, Classical.not_not, nem, ite_not, ne_eq])
      · exact no (decide_eq_false (fun w => b1 w.1.2.1)) (by simp (decide := true) (disch := (first | assumption | (simp only [Sh_setI, Sm_setI, Sh_setL, Sm_setL]; assumption) | omega)) only [a, B_197_105, B_197_108 T', n_ix, n_cl, ekd3, mk, b1, B_197_118, bI_True, bI_False, p_max, p_min, p_abs, Option.bind_some, Option.bind_none, Option.toList_some, Option.toList_none, List.cons_append, List.nil_append, bI_eq0, bI_ne0, bI_ne1, bI_eq1, bI_01, eq_self, true_or, or_true, and_true, true_and, false_and, and_false, false_or, or_false, ite_true, ite_false, if_true, if_false, not_true, not_false_iff, Classical.not_not, nem, ite_not, ne_eq])
    · exact no (decide_eq_false (fun w => a w.1.1)) (by simp (decide := true) (disch := (first | assumption | (simp only [Sh_setI, Sm_setI, Sh_setL, Sm_setL]; assumption) | omega)) only [a, B_197_105, bI_True, bI_False, p_max, p_min, p_abs, Option.bind_some, Option.bind_none, Option.toList_some, Option.toList_none, List.cons_append, List.nil_append, bI_eq0, bI_ne0, bI_ne1, bI_eq1, bI_01, eq_self, true_or, or_true, and_true, true_and, false_and, and_false, false_or, or_false, ite_true, ite_false, if_true, if_false, not_true, not_false_iff, Classical.not_not, nem, ite_not, ne_eq])
end TABLE2
