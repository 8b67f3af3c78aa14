/-! place: the model's best -/
def Bm (m : am_M) (v : Int32) (L : List Nat) (b : Option (Nat × Nat)) (h : am_H) : Prop := match b with
  | none => hI h 56 60 = -1
  | some x => hI h 56 60 = nI (offP m v L x.1 x.2) ∧ hI h 56 57 = nI x.1 ∧ hI h 56 58 = nI (20 * x.2) ∧ hI h 56 59 = midP m v L x.1 x.2
theorem Bm.cg {m : am_M} {v : Int32} {L : List Nat} {b : Option (Nat × Nat)} {h h' : am_H} (B : Bm m v L b h) (e : ∀ f, f ≠ 56 → hI h' 56 f = hI h 56 f) : Bm m v L b h' := by
  cases b with
  | none => exact (e 60 (by omega)).trans B
  | some x =>
    obtain ⟨b1, b2, b3, b4⟩ := B
    exact ⟨(e 60 (by omega)).trans b1, (e 57 (by omega)).trans b2, (e 58 (by omega)).trans b3, (e 59 (by omega)).trans b4⟩
theorem spec_cg {m m' : am_M} (e : ∀ n, 57 ≤ n → n ≤ 84 → m' n = m n) (e2 : ∀ f, f < 56 → m' 56 f = m 56 f) {s : Nat} {v : Int32} : yC m' = yC m ∧ (∀ n, LF m' s v n = LF m s v n) ∧ (∀ L p i, okP m' L p i = okP m L p i) ∧ (∀ L p i, slP m' v L p i = slP m v L p i) ∧ (∀ L p i, midP m' v L p i = midP m v L p i) ∧ ∀ L p i, offP m' v L p i = offP m v L p i := by
  have y : yC m' = yC m := by unfold yC; rw [e2 12 (by omega)]
  have dp : ∀ p i c, dueP m' p i c = dueP m p i c := fun p i c => by
    unfold dueP dueM yDr yN
    rw [e 57 (by omega) (by omega), e 58 (by omega) (by omega), e 59 (by omega) (by omega), e 65 (by omega) (by omega), e 66 (by omega) (by omega), e2 1 (by omega)]
  have hr : ∀ p i, hrF m' v p i = hrF m v p i := fun p i => funext fun c => by
    unfold hrF
    rw [dp, (lateF_cg (c := c) (k := 0) (v := v) e (e2 1 (by omega))).2.1]
    unfold yDr
    rw [e 60 (by omega) (by omega), e 66 (by omega) (by omega)]
  have lf : ∀ n, LF m' s v n = LF m s v n := fun n => by
    induction n with
    | zero => rfl
    | succ n ih =>
      rw [LF, LF, ih]
      unfold heardB
      rw [e 67 (by omega) (by omega), e 72 (by omega) (by omega), e 69 (by omega) (by omega)]
  have ok : ∀ L p i, okP m' L p i = okP m L p i := fun L p i => by
    unfold okP allOk
    rw [show (fun c => !decide (dueP m' p i c = -1)) = (fun c => !decide (dueP m p i c = -1)) from funext fun c => by rw [dp]]
  have sl : ∀ L p i, slP m' v L p i = slP m v L p i := fun L p i => by unfold slP; rw [hr]
  have md : ∀ L p i, midP m' v L p i = midP m v L p i := fun L p i => by unfold midP; rw [sl]
  refine ⟨y, lf, ok, sl, md, fun L p i => ?_⟩
  unfold offP
  rw [md, show (fun k => (slP m' v L p i).getD k 0) = (fun k => (slP m v L p i).getD k 0) from by rw [sl]]
section PLACE7
variable {d : Nat} {h : am_H} {m : am_M}
theorem m_oneP (T : Sm h) (I : Inv m) (e0 : ∀ n, 57 ≤ n → n ≤ 84 → hI h n = m n) (e0f : ∀ f, f < 56 → hI h 56 f = m 56 f) {s p i : Nat} {v : Int32} (hs6 : s < 6) (hp : p < 360) (hi : i < 5) {b : Option (Nat × Nat)} (B : Bm m v (LF m s v (yC m)) b h) (Q : Best (okP m (LF m s v (yC m))) (offP m v (LF m s v (yC m))) (fun p' i' => (p' < 360 ∧ i' < 5) ∧ (p' < p ∨ (p' = p ∧ i' < i))) b) {a5 a6 a7 : am_V} : ∃ h1 b' b5 b6 b7, Ev (d + 17) 193 17 [vr (some 56), vi (nI s), vi v, vi (nI p), vi (nI (20 * i)), a5, a6, a7] [] h = Ev (d + 17) 193 17 [vr (some 56), vi (nI s), vi v, vi (nI p), vi (nI (20 * (i + 1))), b5, b6, b7] [] h1 ∧ Fq h h1 ∧ Bm m v (LF m s v (yC m)) b' h1 ∧ Best (okP m (LF m s v (yC m))) (offP m v (LF m s v (yC m))) (fun p' i' => (p' < 360 ∧ i' < 5) ∧ (p' < p ∨ (p' = p ∧ i' < i + 1))) b' := by
  have eS : ∀ p' i', ((p' < 360 ∧ i' < 5) ∧ (p' < p ∨ (p' = p ∧ i' < i + 1))) ↔ ((p' < 360 ∧ i' < 5) ∧ (p' < p ∨ (p' = p ∧ i' < i))) ∨ (p' = p ∧ i' = i) := fun p' i' => by omega
  have Ih : Inv (hI h) := Inv_cg e0 (fun f q => e0f f (by omega)) I
  obtain ⟨y, lf, okc, slc, mdc, ofc⟩ := spec_cg e0 e0f (s := s) (v := v)
  obtain ⟨h1, e1, F1, f56, r1⟩ := m_hours (d := d + 3) T Ih (v := v) hs6 hp hi
  rw [y, lf, okc] at e1 r1
  rw [slc] at r1
  have T1 := F1.1.sm T
  have B1 := B.cg f56
  have q3 : yC m ≤ 40 := I.2.2.2.1.1.2
  obtain ⟨l1, l2⟩ := LF_le (m := m) (s := s) (v := v) (yC m)
  generalize LF m s v (yC m) = L at *
  have e20 : ∀ x : Nat, 20 * x + 20 = 20 * (x + 1) := fun x => by omega
  by_cases ok : okP m L p i = true
  · obtain ⟨n56, at8⟩ := r1 ok
    have ok2 : L.length ≠ 0 ∧ allOk m p i L = true := by
      unfold okP at ok
      rw [Bool.and_eq_true] at ok
      refine ⟨fun w => ?_, ok.2⟩
      rw [List.eq_nil_of_length_eq_zero w] at ok
      exact absurd ok.1 (by decide)
    obtain ⟨hr2, osz⟩ := off_sz I l2 (by omega) (by omega) hp hi ok2.2 (v := v)
    have emid : hI h1 88 ((L.length - 1) / 2) = midP m v L p i := at8 _ (by omega)
    have hm := hr2 ((L.length - 1) / 2) (by omega)
    have hm' : hrOk (midP m v L p i) := hm
    have go : ∀ j k a, k + j = L.length → a ≤ 10400098 * k → Ev (d + 17) 193 57 [vr (some 56), vi (nI s), vi v, vi (nI p), vi (nI (20 * i)), vi (midP m v L p i), vi (nI a), vi (nI k)] [] h1 = Ev (d + 17) 193 112 [vr (some 56), vi (nI s), vi v, vi (nI p), vi (nI (20 * i)), vi (midP m v L p i), vi (nI (offR (fun k => (slP m v L p i).getD k 0) (midP m v L p i) j k a)), vi (nI L.length)] [] h1 := by
      intro j
      induction j with
      | zero =>
        intro k a e _
        have : k = L.length := by omega
        subst this
        rw [B_193_57 T1, n56]
        simp (decide := true) (disch := (first | assumption | (simp only [Sh_setI, Sm_setI, Sh_setL, Sm_setL]; assumption) | omega)) only [n_le, Nat.le_refl, offR, bI_True, bI_False, p_max, p_min, p_abs, Option.bind_some, Option.bind_none, Option.toList_some, Option.toList_none, List.cons_append, List.nil_append, bI_eq0, bI_ne0, bI_ne1, bI_eq1, bI_01, eq_self, true_or, or_true, and_true, true_and, false_and, and_false, false_or, or_false, ite_true, ite_false, if_true, if_false, not_true, not_false_iff, Classical.not_not, nem, ite_not, ne_eq]
      | succ j ih =>
        intro k a e ha
        have ek := at8 k (by omega)
        obtain ⟨-, a2, a3⟩ := hr_abs (hr2 k (by omega)) hm'
        rw [← ek] at a2 a3
        have hx : Ev (d + 17) 193 57 [vr (some 56), vi (nI s), vi v, vi (nI p), vi (nI (20 * i)), vi (midP m v L p i), vi (nI a), vi (nI k)] [] h1 = Ev (d + 17) 193 57 [vr (some 56), vi (nI s), vi v, vi (nI p), vi (nI (20 * i)), vi (midP m v L p i), vi (nI (a + ((hI h1 88 k).toInt - (midP m v L p i).toInt).natAbs)), vi (nI (k + 1))] [] h1 := by
          rw [← n_add, ← a2, B_193_57 T1, n56]
          by_cases c : midP m v L p i ≤ hI h1 88 k
          · simp (decide := true) (disch := (first | assumption | (simp only [Sh_setI, Sm_setI, Sh_setL, Sm_setL]; assumption) | omega)) only [n_le, show ¬ L.length ≤ k by omega, B_193_66 T1, n_ix, n_cl, c, B_193_93 T1, B_193_103, n_addO, bI_True, bI_False, p_max, p_min, p_abs, Option.bind_some, Option.bind_none, Option.toList_some, Option.toList_none, List.cons_append, List.nil_append, bI_eq0, bI_ne0, bI_ne1, bI_eq1, bI_01, eq_self, true_or, or_true, and_true, true_and, false_and, and_false, false_or, or_false, ite_true, ite_false, if_true, if_false, not_true, not_false_iff, Classical.not_not, nem, ite_not, ne_eq]
          · simp (decide := true) (disch := (first | assumption | (simp only [Sh_setI, Sm_setI, Sh_setL, Sm_setL]; assumption) | omega)) only [n_le, show ¬ L.length ≤ k by omega, B_193_66 T1, n_ix, n_cl, c, B_193_80 T1, B_193_103, n_addO, bI_True, bI_False, p_max, p_min, p_abs, Option.bind_some, Option.bind_none, Option.toList_some, Option.toList_none, List.cons_append, List.nil_append, bI_eq0, bI_ne0, bI_ne1, bI_eq1, bI_01, eq_self, true_or, or_true, and_true, true_and, false_and, and_false, false_or, or_false, ite_true, ite_false, if_true, if_false, not_true, not_false_iff, Classical.not_not, nem, ite_not, ne_eq]
        rw [hx, offR, ih (k + 1) _ (by omega) (by omega), ek]
    have g0 := go L.length 0 0 (by omega) (by omega)
    rw [show offR (fun k => (slP m v L p i).getD k 0) (midP m v L p i) L.length 0 0 = offP m v L p i from rfl] at g0
    have e2 : (nI L.length - 1) / 2 = nI ((L.length - 1) / 2) := by
      show (nI L.length - nI 1) / nI 2 = _
      rw [n_sub (by omega), pk_div (by omega) (by omega) (by omega)]
    have head : Ev (d + 17) 193 17 [vr (some 56), vi (nI s), vi v, vi (nI p), vi (nI (20 * i)), a5, a6, a7] [] h = Ev (d + 17) 193 112 [vr (some 56), vi (nI s), vi v, vi (nI p), vi (nI (20 * i)), vi (midP m v L p i), vi (nI (offP m v L p i)), vi (nI L.length)] [] h1 := by
      rw [B_193_17]
      simp (decide := true) (disch := (first | assumption | (simp only [Sh_setI, Sm_setI, Sh_setL, Sm_setL]; assumption) | omega)) only [n_Olt, show ¬ 80 < 20 * i by omega, B_193_24 T, e1, ok, B_193_33, B_193_36 T1, n56, e2, n_ix, n_cl, emid, bI_True, bI_False, p_max, p_min, p_abs, Option.bind_some, Option.bind_none, Option.toList_some, Option.toList_none, List.cons_append, List.nil_append, bI_eq0, bI_ne0, bI_ne1, bI_eq1, bI_01, eq_self, true_or, or_true, and_true, true_and, false_and, and_false, false_or, or_false, ite_true, ite_false, if_true, if_false, not_true, not_false_iff, Classical.not_not, nem, ite_not, ne_eq]
      exact g0
    have T2 : Sm (setI (setI h1 56 60 (nI (offP m v L p i))) 56 57 (nI p)) := T1.si.si
    have new : (hI h1 56 60 = -1 ∨ ¬ hI h1 56 60 ≤ nI (offP m v L p i)) → (∀ x, b = some x → lexLe (offP m v L p i) p i (offP m v L x.1 x.2) x.1 x.2) → ∃ h1 b' b5 b6 b7, Ev (d + 17) 193 17 [vr (some 56), vi (nI s), vi v, vi (nI p), vi (nI (20 * i)), a5, a6, a7] [] h = Ev (d + 17) 193 17 [vr (some 56), vi (nI s), vi v, vi (nI p), vi (nI (20 * (i + 1))), b5, b6, b7] [] h1 ∧ Fq h h1 ∧ Bm m v L b' h1 ∧ Best (okP m L) (offP m v L) (fun p' i' => (p' < 360 ∧ i' < 5) ∧ (p' < p ∨ (p' = p ∧ i' < i + 1))) b' := by
      intro cond lx
      refine ⟨setI (setI (setI (setI h1 56 60 (nI (offP m v L p i))) 56 57 (nI p)) 56 58 (nI (20 * i))) 56 59 (midP m v L p i), some (p, i), vi (midP m v L p i), vi (nI (offP m v L p i)), vi (nI L.length), ?_, (((F1.s5 (by omega)).s5 (by omega)).s5 (by omega)).s5 (by omega), ?_, best_new eS ok Q lx⟩
      · rw [head]
        by_cases c1 : hI h1 56 60 = -1
        · simp (decide := true) (disch := (first | assumption | (simp only [Sh_setI, Sm_setI, Sh_setL, Sm_setL]; assumption) | omega)) only [B_193_112 T1, c1, B_193_129 T1, B_193_140 T2, B_193_152, n_addO, e20, bI_True, bI_False, p_max, p_min, p_abs, Option.bind_some, Option.bind_none, Option.toList_some, Option.toList_none, List.cons_append, List.nil_append, bI_eq0, bI_ne0, bI_ne1, bI_eq1, bI_01, eq_self, true_or, or_true, and_true, true_and, false_and, and_false, false_or, or_false, ite_true, ite_false, if_true, if_false, not_true, not_false_iff, Classical.not_not, nem, ite_not, ne_eq]
        · have c2 : ¬ hI h1 56 60 ≤ nI (offP m v L p i) := by rcases cond with w | w; exact absurd w c1; exact w
          simp (decide := true) (disch := (first | assumption | (simp only [Sh_setI, Sm_setI, Sh_setL, Sm_setL]; assumption) | omega)) only [B_193_112 T1, c1, B_193_120 T1, c2, B_193_129 T1, B_193_140 T2, B_193_152, n_addO, e20, bI_True, bI_False, p_max, p_min, p_abs, Option.bind_some, Option.bind_none, Option.toList_some, Option.toList_none, List.cons_append, List.nil_append, bI_eq0, bI_ne0, bI_ne1, bI_eq1, bI_01, eq_self, true_or, or_true, and_true, true_and, false_and, and_false, false_or, or_false, ite_true, ite_false, if_true, if_false, not_true, not_false_iff, Classical.not_not, nem, ite_not, ne_eq]
      · refine ⟨?_, ?_, ?_, ?_⟩
        · rw [hI_eq, if_neg (by omega), hI_eq, if_neg (by omega), hI_eq, if_neg (by omega), hI_eq, if_pos rfl]
        · rw [hI_eq, if_neg (by omega), hI_eq, if_neg (by omega), hI_eq, if_pos rfl]
        · rw [hI_eq, if_neg (by omega), hI_eq, if_pos rfl]
        · rw [hI_eq, if_pos rfl]
    cases b with
    | none => exact new (Or.inl B1) (fun x e => absurd e (by simp))
    | some x =>
      have sx := Q.1.1
      have okx : allOk m x.1 x.2 L = true := by
        have := Q.1.2
        unfold okP at this
        rw [Bool.and_eq_true] at this
        exact this.2
      have oszx := (off_sz I l2 (by omega) (by omega) (show x.1 < 360 by omega) (show x.2 < 5 by omega) okx (v := v)).2
      obtain ⟨b1, b2, b3, b4⟩ := id B1
      by_cases u : offP m v L p i < offP m v L x.1 x.2
      · refine new (Or.inr ?_) (fun y e => ?_)
        · rw [b1, n_le (by omega) (by omega)]; omega
        · cases e
          exact Or.inl u
      · refine ⟨h1, some x, vi (midP m v L p i), vi (nI (offP m v L p i)), vi (nI L.length), ?_, F1, B1, best_old eS Q ?_⟩
        · rw [head]
          have c1 : ¬ hI h1 56 60 = -1 := by rw [b1]; exact nI_ne_m1 (by omega)
          have c2 : hI h1 56 60 ≤ nI (offP m v L p i) := by rw [b1, n_le (by omega) (by omega)]; omega
          simp (decide := true) (disch := (first | assumption | (simp only [Sh_setI, Sm_setI, Sh_setL, Sm_setL]; assumption) | omega)) only [B_193_112 T1, c1, B_193_120 T1, c2, B_193_152, n_addO, e20, bI_True, bI_False, p_max, p_min, p_abs, Option.bind_some, Option.bind_none, Option.toList_some, Option.toList_none, List.cons_append, List.nil_append, bI_eq0, bI_ne0, bI_ne1, bI_eq1, bI_01, eq_self, true_or, or_true, and_true, true_and, false_and, and_false, false_or, or_false, ite_true, ite_false, if_true, if_false, not_true, not_false_iff, Classical.not_not, nem, ite_not, ne_eq]
        · unfold lexLe
          omega
  · have okf : okP m L p i = false := by
      cases hq : okP m L p i
      · rfl
      · exact absurd hq ok
    refine ⟨h1, b, a5, a6, a7, ?_, F1, B1, best_no eS okf Q⟩
    rw [B_193_17]
    simp (decide := true) (disch := (first | assumption | (simp only [Sh_setI, Sm_setI, Sh_setL, Sm_setL]; assumption) | omega)) only [n_Olt, show ¬ 80 < 20 * i by omega, B_193_24 T, e1, ok, B_193_33, B_193_152, n_addO, e20, bI_True, bI_False, p_max, p_min, p_abs, Option.bind_some, Option.bind_none, Option.toList_some, Option.toList_none, List.cons_append, List.nil_append, bI_eq0, bI_ne0, bI_ne1, bI_eq1, bI_01, eq_self, true_or, or_true, and_true, true_and, false_and, and_false, false_or, or_false, ite_true, ite_false, if_true, if_false, not_true, not_false_iff, Classical.not_not, nem, ite_not, ne_eq]
theorem m_colP (I : Inv m) {s p : Nat} {v : Int32} (hs6 : s < 6) (hp : p < 360) : ∀ (j i : Nat) (h : am_H) (b : Option (Nat × Nat)) (a5 a6 a7 : am_V), i + j = 5 → Sm h → (∀ n, 57 ≤ n → n ≤ 84 → hI h n = m n) → (∀ f, f < 56 → hI h 56 f = m 56 f) → Bm m v (LF m s v (yC m)) b h → Best (okP m (LF m s v (yC m))) (offP m v (LF m s v (yC m))) (fun p' i' => (p' < 360 ∧ i' < 5) ∧ (p' < p ∨ (p' = p ∧ i' < i))) b → ∃ h1 b' b5 b6 b7, Ev (d + 17) 193 17 [vr (some 56), vi (nI s), vi v, vi (nI p), vi (nI (20 * i)), a5, a6, a7] [] h = Ev (d + 17) 193 158 [vr (some 56), vi (nI s), vi v, vi (nI p), vi (nI 100), b5, b6, b7] [] h1 ∧ Fq h h1 ∧ Bm m v (LF m s v (yC m)) b' h1 ∧ Best (okP m (LF m s v (yC m))) (offP m v (LF m s v (yC m))) (fun p' i' => (p' < 360 ∧ i' < 5) ∧ p' < p + 1) b' := by
  intro j
  induction j with
  | zero =>
    intro i h b a5 a6 a7 e T e0 e0f B Q
    have : i = 5 := by omega
    subst this
    refine ⟨h, b, a5, a6, a7, ?_, Fq.rf, B, best_cg (fun p' i' => by omega) Q⟩
    rw [B_193_17]
    simp (decide := true) (disch := (first | assumption | (simp only [Sh_setI, Sm_setI, Sh_setL, Sm_setL]; assumption) | omega)) only [n_Olt, bI_True, bI_False, p_max, p_min, p_abs, Option.bind_some, Option.bind_none, Option.toList_some, Option.toList_none, List.cons_append, List.nil_append, bI_eq0, bI_ne0, bI_ne1, bI_eq1, bI_01, eq_self, true_or, or_true, and_true, true_and, false_and, and_false, false_or, or_false, ite_true, ite_false, if_true, if_false, not_true, not_false_iff, Classical.not_not, nem, ite_not, ne_eq]
  | succ j ih =>
    intro i h b a5 a6 a7 e T e0 e0f B Q
    obtain ⟨h1, b1, x5, x6, x7, e1, F1, B1, Q1⟩ := m_oneP (d := d) T I e0 e0f hs6 hp (show i < 5 by omega) B Q (a5 := a5) (a6 := a6) (a7 := a7)
    have st := F1.1.2.2.2.2.2
    obtain ⟨h2, b2, y5, y6, y7, e2, F2, r⟩ := ih (i + 1) h1 b1 x5 x6 x7 (by omega) (F1.1.sm T) (fun n q1 q2 => by rw [st n (by omega)]; exact e0 n q1 q2) (fun f q => (F1.2 f q).trans (e0f f q)) B1 Q1
    exact ⟨h2, b2, y5, y6, y7, e1.trans e2, F1.tr F2, r⟩
theorem m_find (T : Sm h) (I : Inv (hI h)) {s : Nat} {v : Int32} (hs6 : s < 6) : ∃ h1 b, Cl (d + 17) 193 [vr (some 56), vi (nI s), vi v] h = some (some (vi (bI (b ≠ none))), h1) ∧ Fq h h1 ∧ Bm (hI h) v (LF (hI h) s v (yC (hI h))) b h1 ∧ Best (okP (hI h) (LF (hI h) s v (yC (hI h)))) (offP (hI h) v (LF (hI h) s v (yC (hI h)))) (fun p' i' => p' < 360 ∧ i' < 5) b := by
  have go : ∀ (j p : Nat) (h' : am_H) (b : Option (Nat × Nat)) (a4 a5 a6 a7 : am_V), p + j = 360 → Fq h h' → Bm (hI h) v (LF (hI h) s v (yC (hI h))) b h' → Best (okP (hI h) (LF (hI h) s v (yC (hI h)))) (offP (hI h) v (LF (hI h) s v (yC (hI h)))) (fun p' i' => (p' < 360 ∧ i' < 5) ∧ p' < p) b → ∃ h1 b', Ev (d + 17) 193 7 [vr (some 56), vi (nI s), vi v, vi (nI p), a4, a5, a6, a7] [] h' = some (some (vi (bI (b' ≠ none))), h1) ∧ Fq h h1 ∧ Bm (hI h) v (LF (hI h) s v (yC (hI h))) b' h1 ∧ Best (okP (hI h) (LF (hI h) s v (yC (hI h)))) (offP (hI h) v (LF (hI h) s v (yC (hI h)))) (fun p' i' => p' < 360 ∧ i' < 5) b' := by
    intro j
    induction j with
    | zero =>
      intro p h' b a4 a5 a6 a7 e F B Q
      have : p = 360 := by omega
      subst this
      have T' := F.1.sm T
      refine ⟨h', b, ?_, F, B, best_cg (fun p' i' => by omega) Q⟩
      rw [B_193_7]
      cases b with
      | none =>
        have z : hI h' 56 60 = -1 := B
        simp (decide := true) (disch := (first | assumption | (simp only [Sh_setI, Sm_setI, Sh_setL, Sm_setL]; assumption) | omega)) only [n_Ole, Nat.le_refl, B_193_164 T', z, B_193_176, B_193_177, bI_True, bI_False, p_max, p_min, p_abs, Option.bind_some, Option.bind_none, Option.toList_some, Option.toList_none, List.cons_append, List.nil_append, bI_eq0, bI_ne0, bI_ne1, bI_eq1, bI_01, eq_self, true_or, or_true, and_true, true_and, false_and, and_false, false_or, or_false, ite_true, ite_false, if_true, if_false, not_true, not_false_iff, Classical.not_not, nem, ite_not, ne_eq]
      | some x =>
        have z : hI h' 56 60 = nI _ := B.1
        have okx := Q.1
        obtain ⟨l1, l2⟩ := LF_le (m := hI h) (s := s) (v := v) (yC (hI h))
        have q3 : yC (hI h) ≤ 40 := I.2.2.2.1.1.2
        have ok2 := okx.2
        unfold okP at ok2
        rw [Bool.and_eq_true] at ok2
        have ln : (LF (hI h) s v (yC (hI h))).length ≠ 0 := fun w => by
          rw [List.eq_nil_of_length_eq_zero w] at ok2
          exact absurd ok2.1 (by decide)
        have oszx := (off_sz I l2 (by omega) (by omega) (show x.1 < 360 by omega) (show x.2 < 5 by omega) ok2.2 (v := v)).2
        have c1 : ¬ hI h' 56 60 = -1 := by rw [z]; exact nI_ne_m1 (by omega)
        simp (decide := true) (disch := (first | assumption | (simp only [Sh_setI, Sm_setI, Sh_setL, Sm_setL]; assumption) | omega)) only [n_Ole, Nat.le_refl, B_193_164 T', c1, B_193_172, B_193_177, reduceCtorEq, bI_True, bI_False, p_max, p_min, p_abs, Option.bind_some, Option.bind_none, Option.toList_some, Option.toList_none, List.cons_append, List.nil_append, bI_eq0, bI_ne0, bI_ne1, bI_eq1, bI_01, eq_self, true_or, or_true, and_true, true_and, false_and, and_false, false_or, or_false, ite_true, ite_false, if_true, if_false, not_true, not_false_iff, Classical.not_not, nem, ite_not, ne_eq]
    | succ j ih =>
      intro p h' b a4 a5 a6 a7 e F B Q
      have T' := F.1.sm T
      obtain ⟨I', e1, e2⟩ := F.inv I
      obtain ⟨h1, b1, x5, x6, x7, e3, F1, B1, Q1⟩ := m_colP (d := d) I hs6 (show p < 360 by omega) 5 0 h' b a5 a6 a7 (by omega) T' e1 e2 B (best_cg (fun p' i' => by omega) Q)
      obtain ⟨h2, b2, e4, r⟩ := ih (p + 1) h1 b1 (vi (nI 100)) x5 x6 x7 (by omega) (F.tr F1) B1 Q1
      refine ⟨h2, b2, ?_, r⟩
      rw [B_193_7]
      simp (decide := true) (disch := (first | assumption | (simp only [Sh_setI, Sm_setI, Sh_setL, Sm_setL]; assumption) | omega)) only [n_Ole, show ¬ 360 ≤ p by omega, B_193_14, bI_True, bI_False, p_max, p_min, p_abs, Option.bind_some, Option.bind_none, Option.toList_some, Option.toList_none, List.cons_append, List.nil_append, bI_eq0, bI_ne0, bI_ne1, bI_eq1, bI_01, eq_self, true_or, or_true, and_true, true_and, false_and, and_false, false_or, or_false, ite_true, ite_false, if_true, if_false, not_true, not_false_iff, Classical.not_not, nem, ite_not, ne_eq]
      refine e3.trans ?_
      simp (decide := true) (disch := (first | assumption | (simp only [Sh_setI, Sm_setI, Sh_setL, Sm_setL]; assumption) | omega)) only [B_193_158, n_addO, bI_True, bI_False, p_max, p_min, p_abs, Option.bind_some, Option.bind_none, Option.toList_some, Option.toList_none, List.cons_append, List.nil_append, bI_eq0, bI_ne0, bI_ne1, bI_eq1, bI_01, eq_self, true_or, or_true, and_true, true_and, false_and, and_false, false_or, or_false, ite_true, ite_false, if_true, if_false, not_true, not_false_iff, Classical.not_not, nem, ite_not, ne_eq]
      exact e4
  obtain ⟨h1, b, e1, r⟩ := go 360 0 (setI h 56 60 (-1)) none vu vu vu vu (by omega) (Fq.rf.s5 (by omega)) (by show hI _ 56 60 = -1; rw [hI_eq, if_pos rfl]) (fun p i q => by omega)
  refine ⟨h1, b, ?_, r⟩
  rw [E_193, B_193_0 T]
  exact e1
end PLACE7
