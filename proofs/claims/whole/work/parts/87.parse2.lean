/-! text: the class's reading, sums, compared, not, one -/
theorem sg2_y5 {c b : Nat} (h : sg2 5 c = some b) : (c = 43 ∧ b = 4) ∨ (c = 45 ∧ b = 5) := by
  unfold sg2 at h
  rw [if_neg (by decide), if_neg (by decide), if_neg (by decide), if_pos rfl] at h
  split at h
  · cases h; exact Or.inl ⟨by assumption, rfl⟩
  · split at h <;> cases h
    exact Or.inr ⟨by assumption, rfl⟩
theorem sg2_n5 {c : Nat} (h : sg2 5 c = none) : c ≠ 43 ∧ c ≠ 45 := ⟨fun w => by rw [w] at h; exact absurd h (by decide), fun w => by rw [w] at h; exact absurd h (by decide)⟩
theorem sg2_y4 {c b : Nat} (h : sg2 4 c = some b) : (c = 60 ∧ b = 2) ∨ (c = 61 ∧ b = 3) := by
  unfold sg2 at h
  rw [if_neg (by decide), if_neg (by decide), if_pos rfl] at h
  split at h
  · cases h; exact Or.inl ⟨by assumption, rfl⟩
  · split at h <;> cases h
    exact Or.inr ⟨by assumption, rfl⟩
theorem sg2_n4 {c : Nat} (h : sg2 4 c = none) : c ≠ 60 ∧ c ≠ 61 := ⟨fun w => by rw [w] at h; exact absurd h (by decide), fun w => by rw [w] at h; exact absurd h (by decide)⟩
theorem c_lp5 {T V : Nat → Nat} {N f : Nat} (hN : N ≤ 160) (hT0 : ∀ t, N ≤ t → T t = 0) (hTb : ∀ t, T t < 200) (hV : ∀ k, T k = 1 → V k ≤ 9999) (ih : RdI T V N f) {o t : Nat} {a : List tOp} {r : tRs} (e : rd T V (f + 1) 15 o t a = some r) (ht : t ≤ N) (ha : a.length ≤ t) (ho : o ≤ 5) {D : Nat} {h : am_H} (S : Sh h) (K : Tk T V N h) (qa : hI h 10 1 = nI t) (C : Co a h) (hD : dmT 5 o ≤ D) {u : Nat} (hu : u ≤ t) (a4 : am_V) : Rn r h (Ev D 26 8 [vr (some 10), vi (nI o), vi 1, vi (nI u), a4] [] h) := by
  obtain ⟨d, rfl⟩ : ∃ d, D = d + 6 := ⟨D - 6, by unfold dmT at hD; omega⟩
  have kt := (K t ht).1
  have tb := hTb t
  have lt : T t ≠ 0 → t < N := fun h => Classical.byContradiction fun w => h (hT0 t (by omega))
  rcases rd_lp (l := 5) (by omega) e with ⟨es, rfl⟩ | ⟨b, q, es, e1, hq⟩
  · obtain ⟨cn, cn2⟩ := sg2_n5 es
    refine ⟨h, ?_, Fi.rf, qa, fun _ => C, a.length, by omega, C.1⟩
    have ca := fun d => c_accF (d := d) S qa (by omega) kt (w := 43) (by rw [n_eqO (by omega) (by decide)]; exact cn)
    have cb := fun d => c_accF (d := d) S qa (by omega) kt (w := 45) (by rw [n_eqO (by omega) (by decide)]; exact cn2)
    rw [B_26_8]
    by_cases u6 : u = 160
    · simp (decide := true) (disch := (first | assumption | (simp only [Sh_setI, Sm_setI, Sh_setL, Sm_setL]; assumption) | omega)) only [n_Ole, show 160 ≤ u by omega, B_26_72, bI_True, bI_False, p_max, p_min, p_abs, Option.bind_some, Option.bind_none, Option.toList_some, Option.toList_none, List.cons_append, List.nil_append, bI_eq0, bI_ne0, bI_ne1, bI_eq1, bI_01, eq_self, true_or, or_true, and_true, true_and, false_and, and_false, false_or, or_false, ite_true, ite_false, if_true, if_false, not_true, not_false_iff, Classical.not_not, nem, ite_not, ne_eq]
    · simp (decide := true) (disch := (first | assumption | (simp only [Sh_setI, Sm_setI, Sh_setL, Sm_setL]; assumption) | omega)) only [n_Ole, show ¬ 160 ≤ u by omega, B_26_15, B_26_19 S, qa, n_ix, n_cl, ca, B_26_39, B_26_42 S, cb, B_26_48, B_26_51, bI_True, bI_False, p_max, p_min, p_abs, Option.bind_some, Option.bind_none, Option.toList_some, Option.toList_none, List.cons_append, List.nil_append, bI_eq0, bI_ne0, bI_ne1, bI_eq1, bI_01, eq_self, true_or, or_true, and_true, true_and, false_and, and_false, false_or, or_false, ite_true, ite_false, if_true, if_false, not_true, not_false_iff, Classical.not_not, nem, ite_not, ne_eq]
  · have tN := lt (sg2_some es).2.1
    have S1 : Sh (setI h 10 1 (nI (t + 1))) := S.si
    have F1 : Fi (fun a => a = 10 ∨ a = 16) h (setI h 10 1 (nI (t + 1))) := Fi.rf.si (Or.inl rfl)
    obtain ⟨h2, e2, F2, qa2, C2, n2, hn2, q32⟩ := (ih 6 o (t + 1) a q (by unfold lvOk; omega) e1 (by omega) (by omega) ho (d + 5) _ S1 (K.fi F1) (by rw [hI_eq, if_pos rfl]) (C.s1) (by rw [if_pos (by decide)]; unfold dmT at hD ⊢; omega)).1 (by omega) (by omega)
    have S2 := F2.sh S1
    obtain ⟨h3, e3, F3, qa3, n3, C3⟩ := c_emit (d := d + 1) S2 hn2 q32 (v := -nI (T t))
    have F123 := (F1.tr F2).tr F3
    obtain ⟨fa, fb, fc⟩ := rd_fact hT0 hV f 6 o (t + 1) a q (by unfold lvOk; omega) e1 (by omega)
    have run : Ev (d + 6) 26 8 [vr (some 10), vi (nI o), vi 1, vi (nI u), a4] [] h = Ev (d + 6) 26 8 [vr (some 10), vi (nI o), vi (bI (q.1 = true)), vi (nI (u + 1)), vi (nI (T t))] [] h3 := by
      have tail : Ev (d + 6) 26 53 [vr (some 10), vi (nI o), vi 1, vi (nI u), vi (nI (T t))] [] (setI h 10 1 (nI (t + 1))) = Ev (d + 6) 26 8 [vr (some 10), vi (nI o), vi (bI (q.1 = true)), vi (nI (u + 1)), vi (nI (T t))] [] h3 := by
        rw [B_26_53 S1, show d + 2 + 3 = d + 5 from rfl, e2]
        simp (decide := true) (disch := (first | assumption | (simp only [Sh_setI, Sm_setI, Sh_setL, Sm_setL]; assumption) | omega)) only [B_26_58 S2, e3, B_26_66, n_addO, bI_True, bI_False, p_max, p_min, p_abs, Option.bind_some, Option.bind_none, Option.toList_some, Option.toList_none, List.cons_append, List.nil_append, bI_eq0, bI_ne0, bI_ne1, bI_eq1, bI_01, eq_self, true_or, or_true, and_true, true_and, false_and, and_false, false_or, or_false, ite_true, ite_false, if_true, if_false, not_true, not_false_iff, Classical.not_not, nem, ite_not, ne_eq]
      rw [B_26_8]
      rcases sg2_y5 es with ⟨cy, rfl⟩ | ⟨cy, rfl⟩
      · have ca := fun d => c_accT (d := d) S qa (by omega) kt (w := 43) (by rw [cy]; rfl)
        simp (decide := true) (disch := (first | assumption | (simp only [Sh_setI, Sm_setI, Sh_setL, Sm_setL]; assumption) | omega)) only [n_Ole, show ¬ 160 ≤ u by omega, B_26_15, B_26_19 S, qa, n_ix, n_cl, kt, ca, B_26_39, bI_True, bI_False, p_max, p_min, p_abs, Option.bind_some, Option.bind_none, Option.toList_some, Option.toList_none, List.cons_append, List.nil_append, bI_eq0, bI_ne0, bI_ne1, bI_eq1, bI_01, eq_self, true_or, or_true, and_true, true_and, false_and, and_false, false_or, or_false, ite_true, ite_false, if_true, if_false, not_true, not_false_iff, Classical.not_not, nem, ite_not, ne_eq]
        exact tail
      · have ca := fun d => c_accF (d := d) S qa (by omega) kt (w := 43) (by rw [cy]; decide)
        have cb := fun d => c_accT (d := d) S qa (by omega) kt (w := 45) (by rw [cy]; rfl)
        simp (decide := true) (disch := (first | assumption | (simp only [Sh_setI, Sm_setI, Sh_setL, Sm_setL]; assumption) | omega)) only [n_Ole, show ¬ 160 ≤ u by omega, B_26_15, B_26_19 S, qa, n_ix, n_cl, kt, ca, B_26_39, B_26_42 S, cb, B_26_48, bI_True, bI_False, p_max, p_min, p_abs, Option.bind_some, Option.bind_none, Option.toList_some, Option.toList_none, List.cons_append, List.nil_append, bI_eq0, bI_ne0, bI_ne1, bI_eq1, bI_01, eq_self, true_or, or_true, and_true, true_and, false_and, and_false, false_or, or_false, ite_true, ite_false, if_true, if_false, not_true, not_false_iff, Classical.not_not, nem, ite_not, ne_eq]
        exact tail
    have ev : -nI (T t) = encC (oTwo b) := by
      rcases sg2_y5 es with ⟨cy, rfl⟩ | ⟨cy, rfl⟩
      · rw [cy]; decide
      · rw [cy]; decide
    rw [run]
    rcases hq with ⟨-, l4, -⟩ | ⟨w, -, e4⟩ | ⟨w, rfl⟩
    · exact absurd l4 (by decide)
    · rw [bI_T w]
      obtain ⟨g1, -⟩ := fc w
      have Ce := C3 q.2.2 (oTwo b) (C2 w) (by omega) ev
      obtain ⟨h4, e5, F4, r4⟩ := ((ih 15 o q.2.1 (q.2.2 ++ [oTwo b]) r (by unfold lvOk; omega) e4 (by omega) (by rw [List.length_append]; show q.2.2.length + 1 ≤ _; omega) ho (d + 6) h3 (F3.sh S2) (K.fi F123) (by rw [qa3]; exact qa2) Ce hD).2.1 (u + 1) (by omega)).2.2.2 rfl (vi (nI (T t)))
      exact ⟨h4, e5, F123.tr F4, r4⟩
    · have b0 : bI (r.1 = true) = 0 := bI_F (by rw [w]; decide)
      rw [b0]
      obtain ⟨n', hn', q3'⟩ := n3
      refine ⟨h3, ?_, F123, by rw [qa3]; exact qa2, fun z => absurd z (by rw [w]; decide), n', hn', q3'⟩
      rw [b0, B_26_8]
      by_cases u6 : 160 ≤ u + 1
      · simp (decide := true) (disch := (first | assumption | (simp only [Sh_setI, Sm_setI, Sh_setL, Sm_setL]; assumption) | omega)) only [n_Ole, u6, B_26_72, bI_True, bI_False, p_max, p_min, p_abs, Option.bind_some, Option.bind_none, Option.toList_some, Option.toList_none, List.cons_append, List.nil_append, bI_eq0, bI_ne0, bI_ne1, bI_eq1, bI_01, eq_self, true_or, or_true, and_true, true_and, false_and, and_false, false_or, or_false, ite_true, ite_false, if_true, if_false, not_true, not_false_iff, Classical.not_not, nem, ite_not, ne_eq]
      · simp (decide := true) (disch := (first | assumption | (simp only [Sh_setI, Sm_setI, Sh_setL, Sm_setL]; assumption) | omega)) only [n_Ole, u6, B_26_15, B_26_72, bI_True, bI_False, p_max, p_min, p_abs, Option.bind_some, Option.bind_none, Option.toList_some, Option.toList_none, List.cons_append, List.nil_append, bI_eq0, bI_ne0, bI_ne1, bI_eq1, bI_01, eq_self, true_or, or_true, and_true, true_and, false_and, and_false, false_or, or_false, ite_true, ite_false, if_true, if_false, not_true, not_false_iff, Classical.not_not, nem, ite_not, ne_eq]
theorem c_up5 {T V : Nat → Nat} {N f : Nat} (hN : N ≤ 160) (hT0 : ∀ t, N ≤ t → T t = 0) (hV : ∀ k, T k = 1 → V k ≤ 9999) (ih : RdI T V N f) {o t : Nat} {a : List tOp} {r : tRs} (e : rd T V (f + 1) 5 o t a = some r) (ht : t ≤ N) (ha : a.length ≤ t) (ho : o ≤ 5) {D : Nat} {h : am_H} (S : Sh h) (K : Tk T V N h) (qa : hI h 10 1 = nI t) (C : Co a h) (hD : dmT 5 o ≤ D) : Rn r h (Cl D 26 [vr (some 10), vi (nI o)] h) := by
  obtain ⟨d, rfl⟩ : ∃ d, D = d + 6 := ⟨D - 6, by unfold dmT at hD; omega⟩
  obtain ⟨q, e1, hq⟩ := rd_up (l := 5) (by omega) e
  obtain ⟨fa, fb, fc⟩ := rd_fact hT0 hV f 6 o t a q (by unfold lvOk; omega) e1 ht
  obtain ⟨h2, e2, F2, qa2, C2, n2, hn2, q32⟩ := (ih 6 o t a q (by unfold lvOk; omega) e1 ht ha ho (d + 5) h S K qa C (by rw [if_pos (by decide)]; unfold dmT at hD ⊢; omega)).1 (by omega) (by omega)
  have run : Cl (d + 6) 26 [vr (some 10), vi (nI o)] h = Ev (d + 6) 26 8 [vr (some 10), vi (nI o), vi (bI (q.1 = true)), vi (nI 0), vu] [] h2 := by
    rw [E_26, B_26_0 S, show d + 2 + 3 = d + 5 from rfl, e2]
    simp (decide := true) (disch := (first | assumption | (simp only [Sh_setI, Sm_setI, Sh_setL, Sm_setL]; assumption) | omega)) only [B_26_5, bI_True, bI_False, p_max, p_min, p_abs, Option.bind_some, Option.bind_none, Option.toList_some, Option.toList_none, List.cons_append, List.nil_append, bI_eq0, bI_ne0, bI_ne1, bI_eq1, bI_01, eq_self, true_or, or_true, and_true, true_and, false_and, and_false, false_or, or_false, ite_true, ite_false, if_true, if_false, not_true, not_false_iff, Classical.not_not, nem, ite_not, ne_eq]
    rfl
  rw [run]
  rcases hq with ⟨w, e4⟩ | ⟨w, rfl⟩
  · rw [bI_T w]
    obtain ⟨g1, -⟩ := fc w
    obtain ⟨h4, e5, F4, r4⟩ := ((ih 15 o q.2.1 q.2.2 r (by unfold lvOk; omega) e4 fb (by omega) ho (d + 6) h2 (F2.sh S) (K.fi F2) qa2 (C2 w) hD).2.1 0 (by omega)).2.2.2 rfl vu
    exact ⟨h4, e5, F2.tr F4, r4⟩
  · have b0 : bI (r.1 = true) = 0 := bI_F (by rw [w]; decide)
    refine ⟨h2, ?_, F2, qa2, C2, n2, hn2, q32⟩
    rw [b0, B_26_8]
    simp (decide := true) (disch := (first | assumption | (simp only [Sh_setI, Sm_setI, Sh_setL, Sm_setL]; assumption) | omega)) only [n_Ole, B_26_15, B_26_72, bI_True, bI_False, p_max, p_min, p_abs, Option.bind_some, Option.bind_none, Option.toList_some, Option.toList_none, List.cons_append, List.nil_append, bI_eq0, bI_ne0, bI_ne1, bI_eq1, bI_01, eq_self, true_or, or_true, and_true, true_and, false_and, and_false, false_or, or_false, ite_true, ite_false, if_true, if_false, not_true, not_false_iff, Classical.not_not, nem, ite_not, ne_eq]
theorem c_lp4 {T V : Nat → Nat} {N f : Nat} (hN : N ≤ 160) (hT0 : ∀ t, N ≤ t → T t = 0) (hTb : ∀ t, T t < 200) (hV : ∀ k, T k = 1 → V k ≤ 9999) (ih : RdI T V N f) {o t : Nat} {a : List tOp} {r : tRs} (e : rd T V (f + 1) 14 o t a = some r) (ht : t ≤ N) (ha : a.length ≤ t) (ho : o ≤ 5) {D : Nat} {h : am_H} (S : Sh h) (K : Tk T V N h) (qa : hI h 10 1 = nI t) (C : Co a h) (hD : dmT 4 o ≤ D) : Rn r h (Ev D 25 23 [vr (some 10), vi (nI o), vi 1, vi (nI (T t))] [] h) := by
  obtain ⟨d, rfl⟩ : ∃ d, D = d + 6 := ⟨D - 6, by unfold dmT at hD; omega⟩
  have kt := (K t ht).1
  have tb := hTb t
  have lt : T t ≠ 0 → t < N := fun h => Classical.byContradiction fun w => h (hT0 t (by omega))
  rcases rd_lp (l := 4) (by omega) e with ⟨es, rfl⟩ | ⟨b, q, es, e1, hq⟩
  · obtain ⟨cn, cn2⟩ := sg2_n4 es
    refine ⟨h, ?_, Fi.rf, qa, fun _ => C, a.length, by omega, C.1⟩
    have ca := fun d => c_accF (d := d) S qa (by omega) kt (w := 60) (by rw [n_eqO (by omega) (by decide)]; exact cn)
    have cb := fun d => c_accF (d := d) S qa (by omega) kt (w := 61) (by rw [n_eqO (by omega) (by decide)]; exact cn2)
    simp (decide := true) (disch := (first | assumption | (simp only [Sh_setI, Sm_setI, Sh_setL, Sm_setL]; assumption) | omega)) only [B_25_23 S, ca, B_25_29, B_25_32 S, cb, B_25_38, B_25_53, bI_True, bI_False, p_max, p_min, p_abs, Option.bind_some, Option.bind_none, Option.toList_some, Option.toList_none, List.cons_append, List.nil_append, bI_eq0, bI_ne0, bI_ne1, bI_eq1, bI_01, eq_self, true_or, or_true, and_true, true_and, false_and, and_false, false_or, or_false, ite_true, ite_false, if_true, if_false, not_true, not_false_iff, Classical.not_not, nem, ite_not, ne_eq]
  · have tN := lt (sg2_some es).2.1
    have S1 : Sh (setI h 10 1 (nI (t + 1))) := S.si
    have F1 : Fi (fun a => a = 10 ∨ a = 16) h (setI h 10 1 (nI (t + 1))) := Fi.rf.si (Or.inl rfl)
    obtain ⟨h2, e2, F2, qa2, C2, n2, hn2, q32⟩ := (ih 5 o (t + 1) a q (by unfold lvOk; omega) e1 (by omega) (by omega) ho (d + 5) _ S1 (K.fi F1) (by rw [hI_eq, if_pos rfl]) (C.s1) (by rw [if_pos (by decide)]; unfold dmT at hD ⊢; omega)).1 (by omega) (by omega)
    have S2 := F2.sh S1
    obtain ⟨h3, e3, F3, qa3, n3, C3⟩ := c_emit (d := d + 1) S2 hn2 q32 (v := -nI (T t))
    have F123 := (F1.tr F2).tr F3
    obtain ⟨fa, fb, fc⟩ := rd_fact hT0 hV f 5 o (t + 1) a q (by unfold lvOk; omega) e1 (by omega)
    have run : Ev (d + 6) 25 23 [vr (some 10), vi (nI o), vi 1, vi (nI (T t))] [] h = some (some (vi (bI (q.1 = true))), h3) := by
      have tail : Ev (d + 6) 25 41 [vr (some 10), vi (nI o), vi 1, vi (nI (T t))] [] (setI h 10 1 (nI (t + 1))) = some (some (vi (bI (q.1 = true))), h3) := by
        rw [B_25_41 S1, show d + 2 + 3 = d + 5 from rfl, e2]
        simp (decide := true) (disch := (first | assumption | (simp only [Sh_setI, Sm_setI, Sh_setL, Sm_setL]; assumption) | omega)) only [B_25_46 S2, e3, B_25_53, bI_True, bI_False, p_max, p_min, p_abs, Option.bind_some, Option.bind_none, Option.toList_some, Option.toList_none, List.cons_append, List.nil_append, bI_eq0, bI_ne0, bI_ne1, bI_eq1, bI_01, eq_self, true_or, or_true, and_true, true_and, false_and, and_false, false_or, or_false, ite_true, ite_false, if_true, if_false, not_true, not_false_iff, Classical.not_not, nem, ite_not, ne_eq]
      rcases sg2_y4 es with ⟨cy, rfl⟩ | ⟨cy, rfl⟩
      · have ca := fun d => c_accT (d := d) S qa (by omega) kt (w := 60) (by rw [cy]; rfl)
        simp (decide := true) (disch := (first | assumption | (simp only [Sh_setI, Sm_setI, Sh_setL, Sm_setL]; assumption) | omega)) only [B_25_23 S, ca, B_25_29, bI_True, bI_False, p_max, p_min, p_abs, Option.bind_some, Option.bind_none, Option.toList_some, Option.toList_none, List.cons_append, List.nil_append, bI_eq0, bI_ne0, bI_ne1, bI_eq1, bI_01, eq_self, true_or, or_true, and_true, true_and, false_and, and_false, false_or, or_false, ite_true, ite_false, if_true, if_false, not_true, not_false_iff, Classical.not_not, nem, ite_not, ne_eq]
        exact tail
      · have ca := fun d => c_accF (d := d) S qa (by omega) kt (w := 60) (by rw [cy]; decide)
        have cb := fun d => c_accT (d := d) S qa (by omega) kt (w := 61) (by rw [cy]; rfl)
        simp (decide := true) (disch := (first | assumption | (simp only [Sh_setI, Sm_setI, Sh_setL, Sm_setL]; assumption) | omega)) only [B_25_23 S, ca, B_25_29, B_25_32 S, cb, B_25_38, bI_True, bI_False, p_max, p_min, p_abs, Option.bind_some, Option.bind_none, Option.toList_some, Option.toList_none, List.cons_append, List.nil_append, bI_eq0, bI_ne0, bI_ne1, bI_eq1, bI_01, eq_self, true_or, or_true, and_true, true_and, false_and, and_false, false_or, or_false, ite_true, ite_false, if_true, if_false, not_true, not_false_iff, Classical.not_not, nem, ite_not, ne_eq]
        exact tail
    have ev : -nI (T t) = encC (oTwo b) := by
      rcases sg2_y4 es with ⟨cy, rfl⟩ | ⟨cy, rfl⟩
      · rw [cy]; decide
      · rw [cy]; decide
    rcases hq with ⟨w, -, rfl⟩ | ⟨-, l4, -⟩ | ⟨w, rfl⟩
    · obtain ⟨g1, -⟩ := fc w
      have Ce := C3 q.2.2 (oTwo b) (C2 w) (by omega) ev
      refine ⟨h3, ?_, F123, by rw [qa3]; exact qa2, fun _ => Ce, n3⟩
      rw [run, bI_T w]; rfl
    · exact absurd rfl l4
    · obtain ⟨n', hn', q3'⟩ := n3
      exact ⟨h3, run, F123, by rw [qa3]; exact qa2, fun z => absurd z (by rw [w]; decide), n', hn', q3'⟩
theorem c_up4 {T V : Nat → Nat} {N f : Nat} (hN : N ≤ 160) (hT0 : ∀ t, N ≤ t → T t = 0) (hV : ∀ k, T k = 1 → V k ≤ 9999) (ih : RdI T V N f) {o t : Nat} {a : List tOp} {r : tRs} (e : rd T V (f + 1) 4 o t a = some r) (ht : t ≤ N) (ha : a.length ≤ t) (ho : o ≤ 5) {D : Nat} {h : am_H} (S : Sh h) (K : Tk T V N h) (qa : hI h 10 1 = nI t) (C : Co a h) (hD : dmT 4 o ≤ D) : Rn r h (Cl D 25 [vr (some 10), vi (nI o)] h) := by
  obtain ⟨d, rfl⟩ : ∃ d, D = d + 6 := ⟨D - 6, by unfold dmT at hD; omega⟩
  obtain ⟨q, e1, hq⟩ := rd_up (l := 4) (by omega) e
  obtain ⟨fa, fb, fc⟩ := rd_fact hT0 hV f 5 o t a q (by unfold lvOk; omega) e1 ht
  obtain ⟨h2, e2, F2, qa2, C2, n2, hn2, q32⟩ := (ih 5 o t a q (by unfold lvOk; omega) e1 ht ha ho (d + 5) h S K qa C (by rw [if_pos (by decide)]; unfold dmT at hD ⊢; omega)).1 (by omega) (by omega)
  have S2 := F2.sh S
  have k2 := ((K.fi F2) q.2.1 fb).1
  have run : Cl (d + 6) 25 [vr (some 10), vi (nI o)] h = Ev (d + 6) 25 5 [vr (some 10), vi (nI o), vu, vu] [vi (bI (q.1 = true))] h2 := by
    rw [E_25, B_25_0 S, show d + 2 + 3 = d + 5 from rfl, e2]
    rfl
  rw [run]
  rcases hq with ⟨w, e4⟩ | ⟨w, rfl⟩
  · obtain ⟨g1, -⟩ := fc w
    obtain ⟨h4, e5, F4, r4⟩ := (ih 14 o q.2.1 q.2.2 r (by unfold lvOk; omega) e4 fb (by omega) ho (d + 6) h2 S2 (K.fi F2) qa2 (C2 w) hD).2.2 rfl
    refine ⟨h4, ?_, F2.tr F4, r4⟩
    rw [bI_T w]
    simp (decide := true) (disch := (first | assumption | (simp only [Sh_setI, Sm_setI, Sh_setL, Sm_setL]; assumption) | omega)) only [B_25_5 S2, qa2, n_ix, n_cl, k2, bI_True, bI_False, p_max, p_min, p_abs, Option.bind_some, Option.bind_none, Option.toList_some, Option.toList_none, List.cons_append, List.nil_append, bI_eq0, bI_ne0, bI_ne1, bI_eq1, bI_01, eq_self, true_or, or_true, and_true, true_and, false_and, and_false, false_or, or_false, ite_true, ite_false, if_true, if_false, not_true, not_false_iff, Classical.not_not, nem, ite_not, ne_eq]
    exact e5
  · have b0 : bI (r.1 = true) = 0 := bI_F (by rw [w]; decide)
    refine ⟨h2, ?_, F2, qa2, C2, n2, hn2, q32⟩
    rw [b0]
    simp (decide := true) (disch := (first | assumption | (simp only [Sh_setI, Sm_setI, Sh_setL, Sm_setL]; assumption) | omega)) only [B_25_5 S2, qa2, n_ix, n_cl, k2, B_25_53, bI_True, bI_False, p_max, p_min, p_abs, Option.bind_some, Option.bind_none, Option.toList_some, Option.toList_none, List.cons_append, List.nil_append, bI_eq0, bI_ne0, bI_ne1, bI_eq1, bI_01, eq_self, true_or, or_true, and_true, true_and, false_and, and_false, false_or, or_false, ite_true, ite_false, if_true, if_false, not_true, not_false_iff, Classical.not_not, nem, ite_not, ne_eq]
theorem c_not {T V : Nat → Nat} {N f : Nat} (hN : N ≤ 160) (hT0 : ∀ t, N ≤ t → T t = 0) (hTb : ∀ t, T t < 200) (hV : ∀ k, T k = 1 → V k ≤ 9999) (ih : RdI T V N f) {o t : Nat} {a : List tOp} {r : tRs} (e : rd T V (f + 1) 3 o t a = some r) (ht : t ≤ N) (ha : a.length ≤ t) (ho : o ≤ 5) {D : Nat} {h : am_H} (S : Sh h) (K : Tk T V N h) (qa : hI h 10 1 = nI t) (C : Co a h) (hD : dmT 3 o ≤ D) : Rn r h (Cl D 24 [vr (some 10), vi (nI o)] h) := by
  obtain ⟨d, rfl⟩ : ∃ d, D = d + 6 := ⟨D - 6, by unfold dmT at hD; omega⟩
  have kt := (K t ht).1
  have tb := hTb t
  have lt : T t ≠ 0 → t < N := fun h => Classical.byContradiction fun w => h (hT0 t (by omega))
  rcases rd_n e with ⟨c, o5, rfl⟩ | ⟨c, o5, q, e1, hq⟩ | ⟨c, e1⟩
  · refine ⟨h, ?_, Fi.rf, qa, fun z => absurd z (by simp), a.length, by omega, C.1⟩
    rw [c] at kt
    simp (decide := true) (disch := (first | assumption | (simp only [Sh_setI, Sm_setI, Sh_setL, Sm_setL]; assumption) | omega)) only [E_24, B_24_0 S, qa, n_ix, n_cl, kt, n_eqO, B_24_24, n_ltO, show ¬ o < 5 by omega, B_24_29, reduceCtorEq, bI_True, bI_False, p_max, p_min, p_abs, Option.bind_some, Option.bind_none, Option.toList_some, Option.toList_none, List.cons_append, List.nil_append, bI_eq0, bI_ne0, bI_ne1, bI_eq1, bI_01, eq_self, true_or, or_true, and_true, true_and, false_and, and_false, false_or, or_false, ite_true, ite_false, if_true, if_false, not_true, not_false_iff, Classical.not_not, nem, ite_not, ne_eq]
  · have tN := lt (by omega)
    rw [c] at kt
    have S1 : Sh (setI h 10 1 (nI (t + 1))) := S.si
    have F1 : Fi (fun a => a = 10 ∨ a = 16) h (setI h 10 1 (nI (t + 1))) := Fi.rf.si (Or.inl rfl)
    obtain ⟨h2, e2, F2, qa2, C2, n2, hn2, q32⟩ := (ih 3 (o + 1) (t + 1) a q (by unfold lvOk; omega) e1 (by omega) (by omega) (by omega) (d + 5) _ S1 (K.fi F1) (by rw [hI_eq, if_pos rfl]) (C.s1) (by rw [if_pos (by decide)]; unfold dmT at hD ⊢; omega)).1 (by omega) (by omega)
    have S2 := F2.sh S1
    obtain ⟨h3, e3, F3, qa3, n3, C3⟩ := c_emit (d := d + 1) S2 hn2 q32 (v := -132)
    have F123 := (F1.tr F2).tr F3
    obtain ⟨fa, fb, fc⟩ := rd_fact hT0 hV f 3 (o + 1) (t + 1) a q (by unfold lvOk; omega) e1 (by omega)
    have run : Cl (d + 6) 24 [vr (some 10), vi (nI o)] h = some (some (vi (bI (q.1 = true))), h3) := by
      rw [E_24]
      simp (decide := true) (disch := (first | assumption | (simp only [Sh_setI, Sm_setI, Sh_setL, Sm_setL]; assumption) | omega)) only [B_24_0 S, qa, n_ix, n_cl, kt, n_eqO, B_24_24, n_ltO, o5, B_24_31 S, n_addO, bI_True, bI_False, p_max, p_min, p_abs, Option.bind_some, Option.bind_none, Option.toList_some, Option.toList_none, List.cons_append, List.nil_append, bI_eq0, bI_ne0, bI_ne1, bI_eq1, bI_01, eq_self, true_or, or_true, and_true, true_and, false_and, and_false, false_or, or_false, ite_true, ite_false, if_true, if_false, not_true, not_false_iff, Classical.not_not, nem, ite_not, ne_eq]
      rw [show d + 2 + 3 = d + 5 from rfl, e2]
      simp (decide := true) (disch := (first | assumption | (simp only [Sh_setI, Sm_setI, Sh_setL, Sm_setL]; assumption) | omega)) only [B_24_48 S2, e3, B_24_56, bI_True, bI_False, p_max, p_min, p_abs, Option.bind_some, Option.bind_none, Option.toList_some, Option.toList_none, List.cons_append, List.nil_append, bI_eq0, bI_ne0, bI_ne1, bI_eq1, bI_01, eq_self, true_or, or_true, and_true, true_and, false_and, and_false, false_or, or_false, ite_true, ite_false, if_true, if_false, not_true, not_false_iff, Classical.not_not, nem, ite_not, ne_eq]
    rcases hq with ⟨w, rfl⟩ | ⟨w, rfl⟩
    · obtain ⟨g1, -⟩ := fc w
      have Ce := C3 q.2.2 oNot (C2 w) (by omega) rfl
      refine ⟨h3, ?_, F123, by rw [qa3]; exact qa2, fun _ => Ce, n3⟩
      rw [run, bI_T w]; rfl
    · obtain ⟨n', hn', q3'⟩ := n3
      exact ⟨h3, run, F123, by rw [qa3]; exact qa2, fun z => absurd z (by rw [w]; decide), n', hn', q3'⟩
  · obtain ⟨h2, e2, F2, r2⟩ := (ih 4 o t a r (by unfold lvOk; omega) e1 ht ha ho (d + 5) h S K qa C (by rw [if_pos (by decide)]; unfold dmT at hD ⊢; omega)).1 (by omega) (by omega)
    refine ⟨h2, ?_, F2, r2⟩
    have c' : ¬ T t = 132 := c
    simp (decide := true) (disch := (first | assumption | (simp only [Sh_setI, Sm_setI, Sh_setL, Sm_setL]; assumption) | omega)) only [E_24, B_24_0 S, qa, n_ix, n_cl, kt, n_eqO, c', B_24_18 S, bI_True, bI_False, p_max, p_min, p_abs, Option.bind_some, Option.bind_none, Option.toList_some, Option.toList_none, List.cons_append, List.nil_append, bI_eq0, bI_ne0, bI_ne1, bI_eq1, bI_01, eq_self, true_or, or_true, and_true, true_and, false_and, and_false, false_or, or_false, ite_true, ite_false, if_true, if_false, not_true, not_false_iff, Classical.not_not, nem, ite_not, ne_eq]
    rw [show d + 2 + 3 = d + 5 from rfl, e2]
    simp (decide := true) (disch := (first | assumption | (simp only [Sh_setI, Sm_setI, Sh_setL, Sm_setL]; assumption) | omega)) only [B_24_23, bI_True, bI_False, p_max, p_min, p_abs, Option.bind_some, Option.bind_none, Option.toList_some, Option.toList_none, List.cons_append, List.nil_append, bI_eq0, bI_ne0, bI_ne1, bI_eq1, bI_01, eq_self, true_or, or_true, and_true, true_and, false_and, and_false, false_or, or_false, ite_true, ite_false, if_true, if_false, not_true, not_false_iff, Classical.not_not, nem, ite_not, ne_eq]
theorem c_isName {c : Nat} {d : Nat} {h : am_H} (hc : c < 200) : Cl (d + 4) 29 [vi (nI c)] h = some (some (vi (bI (133 ≤ c ∧ c < 139))), h) := by
  by_cases a : c < 133
  · simp (decide := true) (disch := (first | assumption | (simp only [Sh_setI, Sm_setI, Sh_setL, Sm_setL]; assumption) | omega)) only [E_29, B_29_0, B_29_7, B_29_14, B_29_18, B_29_19, n_ltO, a, show ¬ (133 ≤ c ∧ c < 139) by omega, bI_True, bI_False, p_max, p_min, p_abs, Option.bind_some, Option.bind_none, Option.toList_some, Option.toList_none, List.cons_append, List.nil_append, bI_eq0, bI_ne0, bI_ne1, bI_eq1, bI_01, eq_self, true_or, or_true, and_true, true_and, false_and, and_false, false_or, or_false, ite_true, ite_false, if_true, if_false, not_true, not_false_iff, Classical.not_not, nem, ite_not, ne_eq]
  · by_cases b : 139 ≤ c
    · simp (decide := true) (disch := (first | assumption | (simp only [Sh_setI, Sm_setI, Sh_setL, Sm_setL]; assumption) | omega)) only [E_29, B_29_0, B_29_7, B_29_14, B_29_18, B_29_19, n_ltO, a, n_Ole, b, show ¬ (133 ≤ c ∧ c < 139) by omega, bI_True, bI_False, p_max, p_min, p_abs, Option.bind_some, Option.bind_none, Option.toList_some, Option.toList_none, List.cons_append, List.nil_append, bI_eq0, bI_ne0, bI_ne1, bI_eq1, bI_01, eq_self, true_or, or_true, and_true, true_and, false_and, and_false, false_or, or_false, ite_true, ite_false, if_true, if_false, not_true, not_false_iff, Classical.not_not, nem, ite_not, ne_eq]
    · simp (decide := true) (disch := (first | assumption | (simp only [Sh_setI, Sm_setI, Sh_setL, Sm_setL]; assumption) | omega)) only [E_29, B_29_0, B_29_7, B_29_14, B_29_18, B_29_19, n_ltO, a, n_Ole, b, show (133 ≤ c ∧ c < 139) by omega, bI_True, bI_False, p_max, p_min, p_abs, Option.bind_some, Option.bind_none, Option.toList_some, Option.toList_none, List.cons_append, List.nil_append, bI_eq0, bI_ne0, bI_ne1, bI_eq1, bI_01, eq_self, true_or, or_true, and_true, true_and, false_and, and_false, false_or, or_false, ite_true, ite_false, if_true, if_false, not_true, not_false_iff, Classical.not_not, nem, ite_not, ne_eq]
theorem c_oneT {T V : Nat → Nat} {N f : Nat} (hN : N ≤ 160) (hT0 : ∀ t, N ≤ t → T t = 0) (hTb : ∀ t, T t < 200) (hV : ∀ k, T k = 1 → V k ≤ 9999) (ih : RdI T V N f) {o t : Nat} {a : List tOp} {r : tRs} (e : rd T V (f + 1) 7 o t a = some r) (ht : t ≤ N) (ha : a.length ≤ t) (ho : o ≤ 5) {D : Nat} {h : am_H} (S : Sh h) (K : Tk T V N h) (qa : hI h 10 1 = nI t) (C : Co a h) (hD : dmT 7 o ≤ D) : Rn r h (Cl D 28 [vr (some 10), vi (nI o)] h) := by
  obtain ⟨d, rfl⟩ : ∃ d, D = d + 6 := ⟨D - 6, by unfold dmT at hD; omega⟩
  have kt := (K t ht).1
  have tb := hTb t
  have lt : T t ≠ 0 → t < N := fun h => Classical.byContradiction fun w => h (hT0 t (by omega))
  have k10 : hkd h 10 = 2 := S.kd (n := 10) (k := 2) rfl rfl
  have S1 : Sh (setI h 10 1 (nI (t + 1))) := S.si
  have F1 : Fi (fun a => a = 10 ∨ a = 16) h (setI h 10 1 (nI (t + 1))) := Fi.rf.si (Or.inl rfl)
  have en := fun d => c_isName (d := d) (h := h) tb
  rcases rd_o e with ⟨c, rfl⟩ | ⟨c, c2, rfl⟩ | ⟨c, c2, o5, rfl⟩ | ⟨c, o5, q, e1, hq⟩ | ⟨c, o5, q, e1, hq⟩ | ⟨c, c2, o5, c4, c5, rfl⟩
  · have tN := lt (by omega)
    obtain ⟨h3, e3, F3, qa3, ⟨n3, hn3, q33⟩, C3⟩ := c_emit (d := d + 1) S (show a.length ≤ 160 by omega) C.1 (v := nI (V t))
    have S3 := F3.sh S
    have v15 := (K t ht).2 c
    rw [c] at kt
    have qa3' : hI h3 10 1 = nI t := qa3.trans qa
    refine ⟨setI h3 10 1 (nI (t + 1)), ?_, F3.si (Or.inl rfl), by rw [hI_eq, if_pos rfl], fun _ => (C3 a (.inl (V t)) C (by omega) rfl).s1, n3, hn3, by rw [hI_eq, if_neg (by omega)]; exact q33⟩
    simp (decide := true) (disch := (first | assumption | (simp only [Sh_setI, Sm_setI, Sh_setL, Sm_setL]; assumption) | omega)) only [E_28, B_28_0 S, qa, n_ix, n_cl, kt, n_eqO, B_28_25, B_28_31 S, v15, B_28_48, k10, e3, B_28_51 S3, qa3', n_addO, bI_True, bI_False, p_max, p_min, p_abs, Option.bind_some, Option.bind_none, Option.toList_some, Option.toList_none, List.cons_append, List.nil_append, bI_eq0, bI_ne0, bI_ne1, bI_eq1, bI_01, eq_self, true_or, or_true, and_true, true_and, false_and, and_false, false_or, or_false, ite_true, ite_false, if_true, if_false, not_true, not_false_iff, Classical.not_not, nem, ite_not, ne_eq]
  · have tN := lt (by omega)
    obtain ⟨h3, e3, F3, qa3, ⟨n3, hn3, q33⟩, C3⟩ := c_emit (d := d + 1) S (show a.length ≤ 160 by omega) C.1 (v := -nI (T t))
    have S3 := F3.sh S
    have qa3' : hI h3 10 1 = nI t := qa3.trans qa
    have ev : -nI (T t) = encC (.inr (.inl (T t - 133))) := by
      show -nI (T t) = -nI (133 + (T t - 133))
      rw [show 133 + (T t - 133) = T t by omega]
    refine ⟨setI h3 10 1 (nI (t + 1)), ?_, F3.si (Or.inl rfl), by rw [hI_eq, if_pos rfl], fun _ => (C3 a _ C (by omega) ev).s1, n3, hn3, by rw [hI_eq, if_neg (by omega)]; exact q33⟩
    simp (decide := true) (disch := (first | assumption | (simp only [Sh_setI, Sm_setI, Sh_setL, Sm_setL]; assumption) | omega)) only [E_28, B_28_0 S, qa, n_ix, n_cl, kt, n_eqO, c, B_28_18, en, c2, B_28_22, B_28_25, B_28_46, B_28_48, k10, e3, B_28_51 S3, qa3', n_addO, bI_True, bI_False, p_max, p_min, p_abs, Option.bind_some, Option.bind_none, Option.toList_some, Option.toList_none, List.cons_append, List.nil_append, bI_eq0, bI_ne0, bI_ne1, bI_eq1, bI_01, eq_self, true_or, or_true, and_true, true_and, false_and, and_false, false_or, or_false, ite_true, ite_false, if_true, if_false, not_true, not_false_iff, Classical.not_not, nem, ite_not, ne_eq]
  · refine ⟨h, ?_, Fi.rf, qa, fun z => absurd z (by simp), a.length, by omega, C.1⟩
    simp (decide := true) (disch := (first | assumption | (simp only [Sh_setI, Sm_setI, Sh_setL, Sm_setL]; assumption) | omega)) only [E_28, B_28_0 S, qa, n_ix, n_cl, kt, n_eqO, c, B_28_18, en, c2, B_28_22, B_28_63, n_ltO, show ¬ o < 5 by omega, B_28_68, reduceCtorEq, bI_True, bI_False, p_max, p_min, p_abs, Option.bind_some, Option.bind_none, Option.toList_some, Option.toList_none, List.cons_append, List.nil_append, bI_eq0, bI_ne0, bI_ne1, bI_eq1, bI_01, eq_self, true_or, or_true, and_true, true_and, false_and, and_false, false_or, or_false, ite_true, ite_false, if_true, if_false, not_true, not_false_iff, Classical.not_not, nem, ite_not, ne_eq]
  · have tN := lt (by omega)
    have ca := fun d => c_accT (d := d) S qa (by omega) kt (w := 40) (by rw [c]; rfl)
    obtain ⟨h2, e2, F2, qa2, C2, n2, hn2, q32⟩ := (ih 1 (o + 1) (t + 1) a q (by unfold lvOk; omega) e1 (by omega) (by omega) (by omega) (d + 5) _ S1 (K.fi F1) (by rw [hI_eq, if_pos rfl]) (C.s1) (by rw [if_pos (by decide)]; unfold dmT at hD ⊢; omega)).1 (by omega) (by omega)
    have S2 := F2.sh S1
    have F12 := F1.tr F2
    obtain ⟨fa, fb, fc⟩ := rd_fact hT0 hV f 1 (o + 1) (t + 1) a q (by unfold lvOk; omega) e1 (by omega)
    have k2 := ((K.fi F12) q.2.1 fb).1
    have run : Cl (d + 6) 28 [vr (some 10), vi (nI o)] h = Ev (d + 6) 28 86 [vr (some 10), vi (nI o), vi (nI (T t)), vu] [vi (bI (q.1 = true))] h2 := by
      simp (decide := true) (disch := (first | assumption | (simp only [Sh_setI, Sm_setI, Sh_setL, Sm_setL]; assumption) | omega)) only [E_28, B_28_0 S, qa, n_ix, n_cl, kt, n_eqO, show ¬ T t = 1 by omega, B_28_18, en, show ¬ (133 ≤ T t ∧ T t < 139) by omega, B_28_22, B_28_63, n_ltO, o5, B_28_70 S, ca, B_28_76, B_28_79 S1, n_addO, bI_True, bI_False, p_max, p_min, p_abs, Option.bind_some, Option.bind_none, Option.toList_some, Option.toList_none, List.cons_append, List.nil_append, bI_eq0, bI_ne0, bI_ne1, bI_eq1, bI_01, eq_self, true_or, or_true, and_true, true_and, false_and, and_false, false_or, or_false, ite_true, ite_false, if_true, if_false, not_true, not_false_iff, Classical.not_not, nem, ite_not, ne_eq]
      rw [show d + 2 + 3 = d + 5 from rfl, e2]
      rfl
    rcases hq with ⟨w, w2, rfl⟩ | ⟨w, w2, rfl⟩ | ⟨w, rfl⟩
    · have cb := fun d => c_accT (d := d) S2 qa2 (by omega) k2 (w := 41) (by rw [w2]; rfl)
      refine ⟨setI h2 10 1 (nI (q.2.1 + 1)), ?_, F12.si (Or.inl rfl), by rw [hI_eq, if_pos rfl], fun _ => (C2 w).s1, n2, hn2, by rw [hI_eq, if_neg (by omega)]; exact q32⟩
      rw [run, bI_T w]
      simp (decide := true) (disch := (first | assumption | (simp only [Sh_setI, Sm_setI, Sh_setL, Sm_setL]; assumption) | omega)) only [B_28_86, B_28_89 S2, cb, B_28_95, B_28_98, B_28_103, bI_True, bI_False, p_max, p_min, p_abs, Option.bind_some, Option.bind_none, Option.toList_some, Option.toList_none, List.cons_append, List.nil_append, bI_eq0, bI_ne0, bI_ne1, bI_eq1, bI_01, eq_self, true_or, or_true, and_true, true_and, false_and, and_false, false_or, or_false, ite_true, ite_false, if_true, if_false, not_true, not_false_iff, Classical.not_not, nem, ite_not, ne_eq]
    · have tb2 := hTb q.2.1
      have cb := fun d => c_accF (d := d) S2 qa2 (by omega) k2 (w := 41) (by rw [n_eqO (by omega) (by decide)]; exact w2)
      refine ⟨h2, ?_, F12, qa2, fun z => absurd z (by simp), n2, hn2, q32⟩
      rw [run, bI_T w]
      simp (decide := true) (disch := (first | assumption | (simp only [Sh_setI, Sm_setI, Sh_setL, Sm_setL]; assumption) | omega)) only [B_28_86, B_28_89 S2, cb, B_28_95, B_28_102, B_28_103, reduceCtorEq, bI_True, bI_False, p_max, p_min, p_abs, Option.bind_some, Option.bind_none, Option.toList_some, Option.toList_none, List.cons_append, List.nil_append, bI_eq0, bI_ne0, bI_ne1, bI_eq1, bI_01, eq_self, true_or, or_true, and_true, true_and, false_and, and_false, false_or, or_false, ite_true, ite_false, if_true, if_false, not_true, not_false_iff, Classical.not_not, nem, ite_not, ne_eq]
    · refine ⟨h2, ?_, F12, qa2, fun z => absurd z (by rw [w]; decide), n2, hn2, q32⟩
      have b0 : bI (r.1 = true) = 0 := bI_F (by rw [w]; decide)
      rw [run, b0]
      simp (decide := true) (disch := (first | assumption | (simp only [Sh_setI, Sm_setI, Sh_setL, Sm_setL]; assumption) | omega)) only [B_28_86, B_28_102, B_28_103, bI_True, bI_False, p_max, p_min, p_abs, Option.bind_some, Option.bind_none, Option.toList_some, Option.toList_none, List.cons_append, List.nil_append, bI_eq0, bI_ne0, bI_ne1, bI_eq1, bI_01, eq_self, true_or, or_true, and_true, true_and, false_and, and_false, false_or, or_false, ite_true, ite_false, if_true, if_false, not_true, not_false_iff, Classical.not_not, nem, ite_not, ne_eq]
  · have tN := lt (by omega)
    have ca0 := fun d => c_accF (d := d) S qa (by omega) kt (w := 40) (by rw [c]; decide)
    have ca := fun d => c_accT (d := d) S qa (by omega) kt (w := 45) (by rw [c]; rfl)
    obtain ⟨h2, e2, F2, qa2, C2, n2, hn2, q32⟩ := (ih 7 (o + 1) (t + 1) a q (by unfold lvOk; omega) e1 (by omega) (by omega) (by omega) (d + 5) _ S1 (K.fi F1) (by rw [hI_eq, if_pos rfl]) (C.s1) (by rw [if_pos (by decide)]; unfold dmT at hD ⊢; omega)).1 (by omega) (by omega)
    have S2 := F2.sh S1
    obtain ⟨h3, e3, F3, qa3, n3, C3⟩ := c_emit (d := d + 1) S2 hn2 q32 (v := -3)
    have F123 := (F1.tr F2).tr F3
    obtain ⟨fa, fb, fc⟩ := rd_fact hT0 hV f 7 (o + 1) (t + 1) a q (by unfold lvOk; omega) e1 (by omega)
    have run : Cl (d + 6) 28 [vr (some 10), vi (nI o)] h = some (some (vi (bI (q.1 = true))), h3) := by
      rw [E_28]
      simp (decide := true) (disch := (first | assumption | (simp only [Sh_setI, Sm_setI, Sh_setL, Sm_setL]; assumption) | omega)) only [B_28_0 S, qa, n_ix, n_cl, kt, n_eqO, show ¬ T t = 1 by omega, B_28_18, en, show ¬ (133 ≤ T t ∧ T t < 139) by omega, B_28_22, B_28_63, n_ltO, o5, B_28_70 S, ca0, B_28_76, B_28_104 S, ca, B_28_110, B_28_115 S1, n_addO, bI_True, bI_False, p_max, p_min, p_abs, Option.bind_some, Option.bind_none, Option.toList_some, Option.toList_none, List.cons_append, List.nil_append, bI_eq0, bI_ne0, bI_ne1, bI_eq1, bI_01, eq_self, true_or, or_true, and_true, true_and, false_and, and_false, false_or, or_false, ite_true, ite_false, if_true, if_false, not_true, not_false_iff, Classical.not_not, nem, ite_not, ne_eq]
      rw [show d + 2 + 3 = d + 5 from rfl, e2]
      simp (decide := true) (disch := (first | assumption | (simp only [Sh_setI, Sm_setI, Sh_setL, Sm_setL]; assumption) | omega)) only [B_28_122 S2, e3, B_28_129, bI_True, bI_False, p_max, p_min, p_abs, Option.bind_some, Option.bind_none, Option.toList_some, Option.toList_none, List.cons_append, List.nil_append, bI_eq0, bI_ne0, bI_ne1, bI_eq1, bI_01, eq_self, true_or, or_true, and_true, true_and, false_and, and_false, false_or, or_false, ite_true, ite_false, if_true, if_false, not_true, not_false_iff, Classical.not_not, nem, ite_not, ne_eq]
    rcases hq with ⟨w, rfl⟩ | ⟨w, rfl⟩
    · obtain ⟨g1, -⟩ := fc w
      have Ce := C3 q.2.2 oNeg (C2 w) (by omega) rfl
      refine ⟨h3, ?_, F123, by rw [qa3]; exact qa2, fun _ => Ce, n3⟩
      rw [run, bI_T w]; rfl
    · obtain ⟨n', hn', q3'⟩ := n3
      exact ⟨h3, run, F123, by rw [qa3]; exact qa2, fun z => absurd z (by rw [w]; decide), n', hn', q3'⟩
  · refine ⟨h, ?_, Fi.rf, qa, fun z => absurd z (by simp), a.length, by omega, C.1⟩
    have ca := fun d => c_accF (d := d) S qa (by omega) kt (w := 40) (by rw [n_eqO (by omega) (by decide)]; exact c4)
    have cb := fun d => c_accF (d := d) S qa (by omega) kt (w := 45) (by rw [n_eqO (by omega) (by decide)]; exact c5)
    simp (decide := true) (disch := (first | assumption | (simp only [Sh_setI, Sm_setI, Sh_setL, Sm_setL]; assumption) | omega)) only [E_28, B_28_0 S, qa, n_ix, n_cl, kt, n_eqO, c, B_28_18, en, c2, B_28_22, B_28_63, n_ltO, o5, B_28_70 S, ca, B_28_76, B_28_104 S, cb, B_28_110, B_28_113, reduceCtorEq, bI_True, bI_False, p_max, p_min, p_abs, Option.bind_some, Option.bind_none, Option.toList_some, Option.toList_none, List.cons_append, List.nil_append, bI_eq0, bI_ne0, bI_ne1, bI_eq1, bI_01, eq_self, true_or, or_true, and_true, true_and, false_and, and_false, false_or, or_false, ite_true, ite_false, if_true, if_false, not_true, not_false_iff, Classical.not_not, nem, ite_not, ne_eq]
theorem c_rd {T V : Nat → Nat} {N : Nat} (hN : N ≤ 160) (hT0 : ∀ t, N ≤ t → T t = 0) (hTb : ∀ t, T t < 200) (hV : ∀ k, T k = 1 → V k ≤ 9999) : ∀ f, RdI T V N f := by
  intro f
  induction f with
  | zero => intro l o t a r _ e; exact absurd e (by simp [rd])
  | succ f ih =>
    intro l o t a r hl e ht ha ho D h S K qa C hD
    refine ⟨fun h1 h7 => ?_, fun u hu => ⟨?_, ?_, ?_, ?_⟩, ?_⟩
    · rw [if_pos (by omega)] at hD
      rcases (by omega : l = 1 ∨ l = 2 ∨ l = 3 ∨ l = 4 ∨ l = 5 ∨ l = 6 ∨ l = 7) with rfl | rfl | rfl | rfl | rfl | rfl | rfl
      · exact c_up1 hN hT0 hV ih e ht ha ho S K qa C hD
      · exact c_up2 hN hT0 hV ih e ht ha ho S K qa C hD
      · exact c_not hN hT0 hTb hV ih e ht ha ho S K qa C hD
      · exact c_up4 hN hT0 hV ih e ht ha ho S K qa C hD
      · exact c_up5 hN hT0 hV ih e ht ha ho S K qa C hD
      · exact c_up6 hN hT0 hV ih e ht ha ho S K qa C hD
      · exact c_oneT hN hT0 hTb hV ih e ht ha ho S K qa C hD
    · rintro rfl
      exact c_lp1 hN hT0 hTb hV ih e ht ha ho S K qa C hD hu
    · rintro rfl
      exact c_lp2 hN hT0 hTb hV ih e ht ha ho S K qa C hD hu
    · rintro rfl
      exact c_lp6 hN hT0 hTb hV ih e ht ha ho S K qa C hD hu
    · rintro rfl a4
      exact c_lp5 hN hT0 hTb hV ih e ht ha ho S K qa C hD hu a4
    · rintro rfl
      exact c_lp4 hN hT0 hTb hV ih e ht ha ho S K qa C hD
