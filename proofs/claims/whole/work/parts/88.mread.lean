/-! text: the model's reading -/
def tkB (c : Nat) : Bool := [0, 1, 2, 40, 41, 42, 43, 45, 59, 60, 61].contains c || (decide (128 ≤ c) && decide (c < 139))
def mTk (c : Nat) : Int32 := if c = 2 then -1 else if c = 128 ∨ c = 129 then 3 else if c = 130 then 4 else if c = 131 then 5 else if c = 132 then 6 else if 133 ≤ c ∧ c < 139 then 2 else nI c
set_option maxRecDepth 20000 in
theorem mtk_a : ∀ c, c < 139 → tkB c = true → (mTk c = 1 ↔ c = 1) ∧ (mTk c = 2 ↔ 133 ≤ c) ∧ (mTk c = 6 ↔ c = 132) ∧ (mTk c = 45 ↔ c = 45) ∧ (mTk c = 40 ↔ c = 40) := by decide
set_option maxRecDepth 20000 in
theorem mtk_b : ∀ c, c < 139 → tkB c = true → (mTk c = 59 ↔ c = 59) ∧ (mTk c = 41 ↔ c = 41) ∧ (mTk c = 3 ↔ c = 128 ∨ c = 129) ∧ (mTk c = 0 ↔ c = 0) ∧ (mTk c = 4 ↔ c = 130) := by decide
set_option maxRecDepth 20000 in
theorem mtk_c : ∀ c, c < 139 → tkB c = true → (mTk c = 5 ↔ c = 131) ∧ (mTk c = 60 ↔ c = 60) ∧ (mTk c = 61 ↔ c = 61) ∧ (mTk c = 43 ↔ c = 43) ∧ (mTk c = 42 ↔ c = 42) := by decide
theorem tkB_lt {c : Nat} (h : tkB c = true) : c < 139 := by
  unfold tkB at h
  rw [Bool.or_eq_true] at h
  rcases h with h | h
  · simp at h; omega
  · simp at h; omega
theorem mtk {c : Nat} (h : tkB c = true) : ((mTk c = 1 ↔ c = 1) ∧ (mTk c = 2 ↔ 133 ≤ c) ∧ (mTk c = 6 ↔ c = 132) ∧ (mTk c = 45 ↔ c = 45) ∧ (mTk c = 40 ↔ c = 40)) ∧ ((mTk c = 59 ↔ c = 59) ∧ (mTk c = 41 ↔ c = 41) ∧ (mTk c = 3 ↔ c = 128 ∨ c = 129) ∧ (mTk c = 0 ↔ c = 0) ∧ (mTk c = 4 ↔ c = 130)) ∧ (mTk c = 5 ↔ c = 131) ∧ (mTk c = 60 ↔ c = 60) ∧ (mTk c = 61 ↔ c = 61) ∧ (mTk c = 43 ↔ c = 43) ∧ (mTk c = 42 ↔ c = 42) := ⟨mtk_a c (tkB_lt h) h, mtk_b c (tkB_lt h) h, mtk_c c (tkB_lt h) h⟩
def Fu (R : Nat) (h h1 : am_H) : Prop := Fi (fun a => a = 56 ∨ a = 74 ∨ a = 86) h h1 ∧ (∀ f, f < 51 → hI h1 56 f = hI h 56 f) ∧ ∀ k, k < 200 * R → hI h1 74 k = hI h 74 k
theorem Fu.rf {R : Nat} {h : am_H} : Fu R h h := ⟨Fi.rf, fun _ _ => rfl, fun _ _ => rfl⟩
theorem Fu.tr {R : Nat} {h h' h'' : am_H} (F : Fu R h h') (G : Fu R h' h'') : Fu R h h'' := ⟨F.1.tr G.1, fun f q => (G.2.1 f q).trans (F.2.1 f q), fun k q => (G.2.2 k q).trans (F.2.2 k q)⟩
theorem Fu.s5 {R : Nat} {h h' : am_H} (F : Fu R h h') {i : Nat} {v : Int32} (w : 51 ≤ i) : Fu R h (setI h' 56 i v) := ⟨F.1.si (Or.inl rfl), fun f q => by rw [hI_eq, if_neg (by omega)]; exact F.2.1 f q, fun k q => by rw [hI_ne (by omega)]; exact F.2.2 k q⟩
theorem Fu.s7 {R : Nat} {h h' : am_H} (F : Fu R h h') {i : Nat} {v : Int32} (w : 200 * R ≤ i) : Fu R h (setI h' 74 i v) := ⟨F.1.si (Or.inr (Or.inl rfl)), fun f q => by rw [hI_ne (by omega)]; exact F.2.1 f q, fun k q => by rw [hI_eq, if_neg (by omega)]; exact F.2.2 k q⟩
theorem Fu.s8 {R : Nat} {h h' : am_H} (F : Fu R h h') {i : Nat} {v : Int32} : Fu R h (setI h' 86 i v) := ⟨F.1.si (Or.inr (Or.inr rfl)), fun f q => by rw [hI_ne (by omega)]; exact F.2.1 f q, fun k q => by rw [hI_ne (by omega)]; exact F.2.2 k q⟩
/-- the model's state while it reads -/
def Mst (R : Nat) (st : List Nat) (a : List tOp) (h : am_H) : Prop := hI h 56 25 = nI R ∧ (hI h 56 51 = nI st.length ∧ ∀ j s, st[j]? = some s → hI h 86 (st.length - 1 - j) = nI s) ∧ hI h 56 52 = nI (cntS st) ∧ hI h 56 53 = nI a.length ∧ ∀ k o, a[k]? = some o → hI h 74 (200 * R + k) = encM o
def okS (s : Nat) : Prop := s = 0 ∨ (11 ≤ s ∧ s ≤ 19)
theorem enc_opS {s : Nat} (h : 11 ≤ s ∧ s ≤ 19) : encM (opS s) = nI s := by
  rcases (by omega : s = 11 ∨ s = 12 ∨ s = 13 ∨ s = 14 ∨ s = 15 ∨ s = 16 ∨ s = 17 ∨ s = 18 ∨ s = 19) with rfl | rfl | rfl | rfl | rfl | rfl | rfl | rfl | rfl <;> decide
theorem cnt_le : ∀ st : List Nat, cntS st ≤ st.length := by
  intro st
  induction st with
  | nil => exact Nat.le_refl _
  | cons s st ih => rw [cntS, List.length_cons]; split <;> omega
def sgI (c : Nat) : Int32 := match sgT c with
  | none => -1
  | some s => nI s
section MREAD
variable {d : Nat} {h : am_H}
theorem m_rank {s : Nat} (hs' : s < 100) : Cl (d + 4) 181 [vi (nI s)] h = some (some (vi (nI (rkS s))), h) := by
  unfold rkS
  by_cases a0 : s = 0
  · simp (decide := true) (disch := (first | assumption | (simp only [Sh_setI, Sm_setI, Sh_setL, Sm_setL]; assumption) | omega)) only [E_181, B_181_0, B_181_4, B_181_8, B_181_14, B_181_18, B_181_24, B_181_28, B_181_34, B_181_38, B_181_44, B_181_48, B_181_54, B_181_58, B_181_64, B_181_69, B_181_71, n_eqO, a0, bI_True, bI_False, p_max, p_min, p_abs, Option.bind_some, Option.bind_none, Option.toList_some, Option.toList_none, List.cons_append, List.nil_append, bI_eq0, bI_ne0, bI_ne1, bI_eq1, bI_01, eq_self, true_or, or_true, and_true, true_and, false_and, and_false, false_or, or_false, ite_true, ite_false, if_true, if_false, not_true, not_false_iff, Classical.not_not, nem, ite_not, ne_eq]; rfl
  · by_cases a1 : s = 11
    · simp (decide := true) (disch := (first | assumption | (simp only [Sh_setI, Sm_setI, Sh_setL, Sm_setL]; assumption) | omega)) only [E_181, B_181_0, B_181_4, B_181_8, B_181_14, B_181_18, B_181_24, B_181_28, B_181_34, B_181_38, B_181_44, B_181_48, B_181_54, B_181_58, B_181_64, B_181_69, B_181_71, n_eqO, a1, bI_True, bI_False, p_max, p_min, p_abs, Option.bind_some, Option.bind_none, Option.toList_some, Option.toList_none, List.cons_append, List.nil_append, bI_eq0, bI_ne0, bI_ne1, bI_eq1, bI_01, eq_self, true_or, or_true, and_true, true_and, false_and, and_false, false_or, or_false, ite_true, ite_false, if_true, if_false, not_true, not_false_iff, Classical.not_not, nem, ite_not, ne_eq]; rfl
    · by_cases a2 : s = 12
      · simp (decide := true) (disch := (first | assumption | (simp only [Sh_setI, Sm_setI, Sh_setL, Sm_setL]; assumption) | omega)) only [E_181, B_181_0, B_181_4, B_181_8, B_181_14, B_181_18, B_181_24, B_181_28, B_181_34, B_181_38, B_181_44, B_181_48, B_181_54, B_181_58, B_181_64, B_181_69, B_181_71, n_eqO, a2, bI_True, bI_False, p_max, p_min, p_abs, Option.bind_some, Option.bind_none, Option.toList_some, Option.toList_none, List.cons_append, List.nil_append, bI_eq0, bI_ne0, bI_ne1, bI_eq1, bI_01, eq_self, true_or, or_true, and_true, true_and, false_and, and_false, false_or, or_false, ite_true, ite_false, if_true, if_false, not_true, not_false_iff, Classical.not_not, nem, ite_not, ne_eq]; rfl
      · by_cases a3 : s = 13
        · simp (decide := true) (disch := (first | assumption | (simp only [Sh_setI, Sm_setI, Sh_setL, Sm_setL]; assumption) | omega)) only [E_181, B_181_0, B_181_4, B_181_8, B_181_14, B_181_18, B_181_24, B_181_28, B_181_34, B_181_38, B_181_44, B_181_48, B_181_54, B_181_58, B_181_64, B_181_69, B_181_71, n_eqO, a3, bI_True, bI_False, p_max, p_min, p_abs, Option.bind_some, Option.bind_none, Option.toList_some, Option.toList_none, List.cons_append, List.nil_append, bI_eq0, bI_ne0, bI_ne1, bI_eq1, bI_01, eq_self, true_or, or_true, and_true, true_and, false_and, and_false, false_or, or_false, ite_true, ite_false, if_true, if_false, not_true, not_false_iff, Classical.not_not, nem, ite_not, ne_eq]; rfl
        · by_cases a4 : s ≤ 15
          · simp (decide := true) (disch := (first | assumption | (simp only [Sh_setI, Sm_setI, Sh_setL, Sm_setL]; assumption) | omega)) only [E_181, B_181_0, B_181_4, B_181_8, B_181_14, B_181_18, B_181_24, B_181_28, B_181_34, B_181_38, B_181_44, B_181_48, B_181_54, B_181_58, B_181_64, B_181_69, B_181_71, n_eqO, a0, a1, a2, a3, n_Olt, show ¬ 15 < s by omega, a4, bI_True, bI_False, p_max, p_min, p_abs, Option.bind_some, Option.bind_none, Option.toList_some, Option.toList_none, List.cons_append, List.nil_append, bI_eq0, bI_ne0, bI_ne1, bI_eq1, bI_01, eq_self, true_or, or_true, and_true, true_and, false_and, and_false, false_or, or_false, ite_true, ite_false, if_true, if_false, not_true, not_false_iff, Classical.not_not, nem, ite_not, ne_eq]; rfl
          · by_cases a5 : s ≤ 17
            · simp (decide := true) (disch := (first | assumption | (simp only [Sh_setI, Sm_setI, Sh_setL, Sm_setL]; assumption) | omega)) only [E_181, B_181_0, B_181_4, B_181_8, B_181_14, B_181_18, B_181_24, B_181_28, B_181_34, B_181_38, B_181_44, B_181_48, B_181_54, B_181_58, B_181_64, B_181_69, B_181_71, n_eqO, a0, a1, a2, a3, n_Olt, show 15 < s by omega, a4, show ¬ 17 < s by omega, a5, bI_True, bI_False, p_max, p_min, p_abs, Option.bind_some, Option.bind_none, Option.toList_some, Option.toList_none, List.cons_append, List.nil_append, bI_eq0, bI_ne0, bI_ne1, bI_eq1, bI_01, eq_self, true_or, or_true, and_true, true_and, false_and, and_false, false_or, or_false, ite_true, ite_false, if_true, if_false, not_true, not_false_iff, Classical.not_not, nem, ite_not, ne_eq]; rfl
            · by_cases a6 : s = 18
              · simp (decide := true) (disch := (first | assumption | (simp only [Sh_setI, Sm_setI, Sh_setL, Sm_setL]; assumption) | omega)) only [E_181, B_181_0, B_181_4, B_181_8, B_181_14, B_181_18, B_181_24, B_181_28, B_181_34, B_181_38, B_181_44, B_181_48, B_181_54, B_181_58, B_181_64, B_181_69, B_181_71, n_eqO, a6, n_Olt, bI_True, bI_False, p_max, p_min, p_abs, Option.bind_some, Option.bind_none, Option.toList_some, Option.toList_none, List.cons_append, List.nil_append, bI_eq0, bI_ne0, bI_ne1, bI_eq1, bI_01, eq_self, true_or, or_true, and_true, true_and, false_and, and_false, false_or, or_false, ite_true, ite_false, if_true, if_false, not_true, not_false_iff, Classical.not_not, nem, ite_not, ne_eq]; rfl
              · simp (decide := true) (disch := (first | assumption | (simp only [Sh_setI, Sm_setI, Sh_setL, Sm_setL]; assumption) | omega)) only [E_181, B_181_0, B_181_4, B_181_8, B_181_14, B_181_18, B_181_24, B_181_28, B_181_34, B_181_38, B_181_44, B_181_48, B_181_54, B_181_58, B_181_64, B_181_69, B_181_71, n_eqO, a0, a1, a2, a3, n_Olt, show 15 < s by omega, a4, show 17 < s by omega, a5, a6, bI_True, bI_False, p_max, p_min, p_abs, Option.bind_some, Option.bind_none, Option.toList_some, Option.toList_none, List.cons_append, List.nil_append, bI_eq0, bI_ne0, bI_ne1, bI_eq1, bI_01, eq_self, true_or, or_true, and_true, true_and, false_and, and_false, false_or, or_false, ite_true, ite_false, if_true, if_false, not_true, not_false_iff, Classical.not_not, nem, ite_not, ne_eq]; rfl
theorem m_puts (T : Sm h) {R : Nat} (hR6 : R < 6) {st : List Nat} {a : List tOp} (M : Mst R st a h) (ha : a.length < 200) {o : tOp} {v : Int32} (ev : v = encM o) : ∃ h1, Cl (d + 4) 179 [vr (some 56), vi v] h = some (none, h1) ∧ Fu R h h1 ∧ Mst R st (a ++ [o]) h1 := by
  obtain ⟨m1, ⟨m2, m3⟩, m4, m5, m6⟩ := M
  refine ⟨setI (setI h 74 (200 * R + a.length) v) 56 53 (nI (a.length + 1)), ?_, (Fu.rf.s7 (by omega)).s5 (by omega), ?_, ⟨?_, ?_⟩, ?_, ?_, ?_⟩
  · simp (decide := true) (disch := (first | assumption | (simp only [Sh_setI, Sm_setI, Sh_setL, Sm_setL]; assumption) | omega)) only [E_179, B_179_0, B_179_29, m1, m5, n_Omul, n_add, n_ix, n_cl, hI_ne, n_addO, bI_True, bI_False, p_max, p_min, p_abs, Option.bind_some, Option.bind_none, Option.toList_some, Option.toList_none, List.cons_append, List.nil_append, bI_eq0, bI_ne0, bI_ne1, bI_eq1, bI_01, eq_self, true_or, or_true, and_true, true_and, false_and, and_false, false_or, or_false, ite_true, ite_false, if_true, if_false, not_true, not_false_iff, Classical.not_not, nem, ite_not, ne_eq]
  · rw [hI_eq, if_neg (by omega), hI_ne (by omega)]; exact m1
  · rw [hI_eq, if_neg (by omega), hI_ne (by omega)]; exact m2
  · rw [hI_ne (by omega), hI_ne (by omega)]; exact m3
  · rw [hI_eq, if_neg (by omega), hI_ne (by omega)]; exact m4
  · rw [hI_eq, if_pos rfl, List.length_append]; rfl
  · intro k o' w
    rw [hI_ne (by omega), hI_eq]
    by_cases z : k = a.length
    · rw [if_pos (by omega), ev]
      rw [z, List.getElem?_append_right (Nat.le_refl _), Nat.sub_self] at w
      have : o = o' := by simpa using w
      rw [this]
    · rw [if_neg (by omega)]
      have : k < a.length := by
        have := (List.getElem?_eq_some_iff.mp w).1
        rw [List.length_append] at this
        have : k < a.length + 1 := this
        omega
      rw [List.getElem?_append_left this] at w
      exact m6 k o' w
theorem m_unw {R l : Nat} (hR6 : R < 6) (hl : 1 ≤ l ∧ l ≤ 7) : ∀ (st : List Nat) (a : List tOp) (h : am_H) (a2 : am_V), Sm h → Mst R st a h → (∀ s, s ∈ st → okS s) → st.length + a.length ≤ 199 → ∃ h1, Ev (d + 8) 180 0 [vr (some 56), vi (nI l), a2] [] h = some (none, h1) ∧ Fu R h h1 ∧ Mst R (unw l st a).1 (unw l st a).2 h1 := by
  intro st
  induction st with
  | nil =>
    intro a h a2 T M ok hl2
    refine ⟨h, ?_, Fu.rf, M⟩
    have m2 : hI h 56 51 = nI 0 := M.2.1.1
    rw [B_180_0 T, m2]
    simp (decide := true) (disch := (first | assumption | (simp only [Sh_setI, Sm_setI, Sh_setL, Sm_setL]; assumption) | omega)) only [n_leO, B_180_79, bI_True, bI_False, p_max, p_min, p_abs, Option.bind_some, Option.bind_none, Option.toList_some, Option.toList_none, List.cons_append, List.nil_append, bI_eq0, bI_ne0, bI_ne1, bI_eq1, bI_01, eq_self, true_or, or_true, and_true, true_and, false_and, and_false, false_or, or_false, ite_true, ite_false, if_true, if_false, not_true, not_false_iff, Classical.not_not, nem, ite_not, ne_eq]
  | cons s st ih =>
    intro a h a2 T M ok hl2
    obtain ⟨m1, ⟨m2, m3⟩, m4, m5, m6⟩ := id M
    have oks := ok s (List.mem_cons_self)
    have s100 : s < 100 := by unfold okS at oks; omega
    have ls : (s :: st).length = st.length + 1 := rfl
    rw [ls] at m2 hl2
    have top : hI h 86 st.length = nI s := m3 0 s rfl
    have mr := fun d => m_rank (d := d) (h := h) s100
    rw [unw]
    have r7 : rkS s ≤ 7 := by unfold rkS; repeat' split
                              all_goals omega
    by_cases g : l ≤ rkS s
    · rw [if_pos g]
      have s0 : s ≠ 0 := by
        rintro rfl
        have : rkS 0 = 0 := rfl
        omega
      have s11 : 11 ≤ s ∧ s ≤ 19 := by unfold okS at oks; omega
      have T1 : Sm (setI h 56 51 (nI st.length)) := T.si
      have T2 : Sm (setI (setI h 56 51 (nI st.length)) 56 52 (nI (cntS st))) := T.si.si
      have M2 : Mst R st a (setI (setI h 56 51 (nI st.length)) 56 52 (nI (cntS st))) := by
        refine ⟨?_, ⟨?_, ?_⟩, ?_, ?_, ?_⟩
        · rw [hI_eq, if_neg (by omega), hI_eq, if_neg (by omega)]; exact m1
        · rw [hI_eq, if_neg (by omega), hI_eq, if_pos rfl]
        · intro j s' w
          rw [hI_ne (by omega), hI_ne (by omega)]
          have := m3 (j + 1) s' w
          rw [ls, show st.length + 1 - 1 - (j + 1) = st.length - 1 - j by omega] at this
          exact this
        · rw [hI_eq, if_pos rfl]
        · rw [hI_eq, if_neg (by omega), hI_eq, if_neg (by omega)]; exact m5
        · intro k o w
          rw [hI_ne (by omega), hI_ne (by omega)]
          exact m6 k o w
      obtain ⟨h3, e3, F3, M3⟩ := m_puts (d := d + 3) T2 hR6 M2 (by omega) (o := opS s) (v := nI s) (enc_opS s11).symm
      obtain ⟨h4, e4, F4, M4⟩ := ih (a ++ [opS s]) h3 (vi (nI s)) (F3.1.sm T2) M3 (fun x hx => ok x (List.mem_cons_of_mem _ hx)) (by rw [List.length_append]; show st.length + (a.length + 1) ≤ 199; omega)
      refine ⟨h4, ?_, ((Fu.rf.s5 (by omega)).s5 (by omega)).tr (F3.tr F4), M4⟩
      have k56 : hkd (setI h 56 51 (nI st.length)) 56 = 11 := T1.kd (n := 56) (k := 11) rfl rfl
      rw [B_180_0 T]
      simp (decide := true) (disch := (first | assumption | (simp only [Sh_setI, Sm_setI, Sh_setL, Sm_setL]; assumption) | omega)) only [m2, n_leO, show ¬ st.length + 1 ≤ 0 by omega, B_180_7 T, n_subO, Nat.le_add_left, Nat.add_sub_cancel, n_ix, n_cl, top, mr, B_180_21, n_lt, show ¬ rkS s < l by omega, B_180_25 T, hI_eq, hI_ne, n_eqO, m4, bI_True, bI_False, p_max, p_min, p_abs, Option.bind_some, Option.bind_none, Option.toList_some, Option.toList_none, List.cons_append, List.nil_append, bI_eq0, bI_ne0, bI_ne1, bI_eq1, bI_01, eq_self, true_or, or_true, and_true, true_and, false_and, and_false, false_or, or_false, ite_true, ite_false, if_true, if_false, not_true, not_false_iff, Classical.not_not, nem, ite_not, ne_eq]
      by_cases c : s = 13 ∨ s = 19
      · have cs : cntS (s :: st) = cntS st + 1 := by rw [cntS, if_pos (by omega), Nat.add_comm]
        rw [cs]
        rcases c with rfl | rfl
        · simp (decide := true) (disch := (first | assumption | (simp only [Sh_setI, Sm_setI, Sh_setL, Sm_setL]; assumption) | omega)) only [B_180_62, B_180_67 T1, k56, n_subO, Nat.le_add_left, Nat.add_sub_cancel, e3, B_180_76, bI_True, bI_False, p_max, p_min, p_abs, Option.bind_some, Option.bind_none, Option.toList_some, Option.toList_none, List.cons_append, List.nil_append, bI_eq0, bI_ne0, bI_ne1, bI_eq1, bI_01, eq_self, true_or, or_true, and_true, true_and, false_and, and_false, false_or, or_false, ite_true, ite_false, if_true, if_false, not_true, not_false_iff, Classical.not_not, nem, ite_not, ne_eq]
          exact e4
        · simp (decide := true) (disch := (first | assumption | (simp only [Sh_setI, Sm_setI, Sh_setL, Sm_setL]; assumption) | omega)) only [B_180_56, n_eqO, B_180_62, B_180_67 T1, k56, n_subO, Nat.le_add_left, Nat.add_sub_cancel, e3, B_180_76, bI_True, bI_False, p_max, p_min, p_abs, Option.bind_some, Option.bind_none, Option.toList_some, Option.toList_none, List.cons_append, List.nil_append, bI_eq0, bI_ne0, bI_ne1, bI_eq1, bI_01, eq_self, true_or, or_true, and_true, true_and, false_and, and_false, false_or, or_false, ite_true, ite_false, if_true, if_false, not_true, not_false_iff, Classical.not_not, nem, ite_not, ne_eq]
          exact e4
      · have cs : cntS (s :: st) = cntS st := by rw [cntS, if_neg (by omega), Nat.zero_add]
        have c13 : ¬ s = 13 := fun w => c (Or.inl w)
        have c19 : ¬ s = 19 := fun w => c (Or.inr w)
        rw [cs]
        simp (decide := true) (disch := (first | assumption | (simp only [Sh_setI, Sm_setI, Sh_setL, Sm_setL]; assumption) | omega)) only [c13, c19, B_180_56, n_eqO, B_180_66, B_180_67 T1, k56, n_subO, Nat.zero_le, Nat.sub_zero, e3, B_180_76, bI_True, bI_False, p_max, p_min, p_abs, Option.bind_some, Option.bind_none, Option.toList_some, Option.toList_none, List.cons_append, List.nil_append, bI_eq0, bI_ne0, bI_ne1, bI_eq1, bI_01, eq_self, true_or, or_true, and_true, true_and, false_and, and_false, false_or, or_false, ite_true, ite_false, if_true, if_false, not_true, not_false_iff, Classical.not_not, nem, ite_not, ne_eq]
        exact e4
    · rw [if_neg g]
      refine ⟨h, ?_, Fu.rf, M⟩
      rw [B_180_0 T]
      simp (decide := true) (disch := (first | assumption | (simp only [Sh_setI, Sm_setI, Sh_setL, Sm_setL]; assumption) | omega)) only [m2, n_leO, show ¬ st.length + 1 ≤ 0 by omega, B_180_7 T, n_subO, Nat.le_add_left, Nat.add_sub_cancel, n_ix, n_cl, top, mr, B_180_21, n_lt, show rkS s < l by omega, B_180_79, bI_True, bI_False, p_max, p_min, p_abs, Option.bind_some, Option.bind_none, Option.toList_some, Option.toList_none, List.cons_append, List.nil_append, bI_eq0, bI_ne0, bI_ne1, bI_eq1, bI_01, eq_self, true_or, or_true, and_true, true_and, false_and, and_false, false_or, or_false, ite_true, ite_false, if_true, if_false, not_true, not_false_iff, Classical.not_not, nem, ite_not, ne_eq]
theorem m_unwC {R l : Nat} (hR6 : R < 6) (hl : 1 ≤ l ∧ l ≤ 7) {st : List Nat} {a : List tOp} (T : Sm h) (M : Mst R st a h) (ok : ∀ s, s ∈ st → okS s) (hl2 : st.length + a.length ≤ 199) : ∃ h1, Cl (d + 8) 180 [vr (some 56), vi (nI l)] h = some (none, h1) ∧ Fu R h h1 ∧ Mst R (unw l st a).1 (unw l st a).2 h1 := by
  obtain ⟨h1, e, r⟩ := m_unw (d := d) hR6 hl st a h vu T M ok hl2
  exact ⟨h1, by rw [E_180]; exact e, r⟩
theorem m_push (T : Sm h) {R : Nat} {st : List Nat} {a : List tOp} {c : Nat} (m1 : hI h 56 25 = nI R) (m2 : hI h 56 51 = nI st.length) (m3 : ∀ j s, st[j]? = some s → hI h 86 (st.length - 1 - j) = nI s) (m4 : hI h 56 52 = nI c) (m5 : hI h 56 53 = nI a.length) (m6 : ∀ k o, a[k]? = some o → hI h 74 (200 * R + k) = encM o) (hl : st.length < 200) {s : Nat} (cs : cntS (s :: st) = c) : ∃ h1, Cl (d + 4) 183 [vr (some 56), vi (nI s)] h = some (none, h1) ∧ Fu R h h1 ∧ Mst R (s :: st) a h1 := by
  refine ⟨setI (setI h 86 st.length (nI s)) 56 51 (nI (st.length + 1)), ?_, Fu.rf.s8.s5 (by omega), ?_, ⟨?_, ?_⟩, ?_, ?_, ?_⟩
  · simp (decide := true) (disch := (first | assumption | (simp only [Sh_setI, Sm_setI, Sh_setL, Sm_setL]; assumption) | omega)) only [E_183, B_183_0, B_183_20, m2, n_ix, n_cl, hI_ne, n_addO, bI_True, bI_False, p_max, p_min, p_abs, Option.bind_some, Option.bind_none, Option.toList_some, Option.toList_none, List.cons_append, List.nil_append, bI_eq0, bI_ne0, bI_ne1, bI_eq1, bI_01, eq_self, true_or, or_true, and_true, true_and, false_and, and_false, false_or, or_false, ite_true, ite_false, if_true, if_false, not_true, not_false_iff, Classical.not_not, nem, ite_not, ne_eq]
  · rw [hI_eq, if_neg (by omega), hI_ne (by omega)]; exact m1
  · rw [hI_eq, if_pos rfl]; rfl
  · intro j s' w
    rw [hI_ne (by omega), hI_eq]
    show (if st.length + 1 - 1 - j = st.length then _ else _) = _
    cases j with
    | zero =>
      rw [if_pos (by omega)]
      have : s = s' := by simpa using w
      rw [this]
    | succ j =>
      have : j < st.length := (List.getElem?_eq_some_iff.mp (show st[j]? = some s' from w)).1
      rw [if_neg (by omega)]
      have ei : (s :: st).length - 1 - (j + 1) = st.length - 1 - j := by
        show st.length + 1 - 1 - (j + 1) = _
        omega
      rw [ei]
      exact m3 j s' w
  · rw [hI_eq, if_neg (by omega), hI_ne (by omega), cs]; exact m4
  · rw [hI_eq, if_neg (by omega), hI_ne (by omega)]; exact m5
  · intro k o w
    rw [hI_ne (by omega), hI_ne (by omega)]
    exact m6 k o w
theorem m_opens (T : Sm h) {R : Nat} {st : List Nat} {a : List tOp} (M : Mst R st a h) (hl : st.length < 200) {s : Nat} (hs' : s = 0 ∨ s = 13 ∨ s = 19) {v : Int32} (ev : v = nI s) : ∃ h1, Cl (d + 8) 182 [vr (some 56), vi v] h = some (some (vi (bI (¬ cntS st = 5))), h1) ∧ Fu R h h1 ∧ (¬ cntS st = 5 → Mst R (s :: st) a h1) := by
  obtain ⟨m1, ⟨m2, m3⟩, m4, m5, m6⟩ := M
  have cl := cnt_le st
  subst ev
  by_cases c : cntS st = 5
  · refine ⟨h, ?_, Fu.rf, fun w => absurd c w⟩
    simp (decide := true) (disch := (first | assumption | (simp only [Sh_setI, Sm_setI, Sh_setL, Sm_setL]; assumption) | omega)) only [E_182, B_182_0, B_182_8, B_182_10, B_182_25, m4, n_eqO, c, bI_True, bI_False, p_max, p_min, p_abs, Option.bind_some, Option.bind_none, Option.toList_some, Option.toList_none, List.cons_append, List.nil_append, bI_eq0, bI_ne0, bI_ne1, bI_eq1, bI_01, eq_self, true_or, or_true, and_true, true_and, false_and, and_false, false_or, or_false, ite_true, ite_false, if_true, if_false, not_true, not_false_iff, Classical.not_not, nem, ite_not, ne_eq]
  · obtain ⟨h1, e1, F1, M1⟩ := m_push (d := d + 3) (R := R) (st := st) (a := a) (c := cntS st + 1) (h := setI h 56 52 (nI (cntS st + 1))) T.si (by rw [hI_eq, if_neg (by omega)]; exact m1) (by rw [hI_eq, if_neg (by omega)]; exact m2) (by rw [hI_ne (by omega)]; exact m3) (by rw [hI_eq, if_pos rfl]) (by rw [hI_eq, if_neg (by omega)]; exact m5) (by rw [hI_ne (by omega)]; exact m6) hl (s := s) (by rw [cntS, if_pos hs', Nat.add_comm])
    refine ⟨h1, ?_, (Fu.rf.s5 (by omega)).tr F1, fun _ => M1⟩
    simp (decide := true) (disch := (first | assumption | (simp only [Sh_setI, Sm_setI, Sh_setL, Sm_setL]; assumption) | omega)) only [E_182, B_182_0, B_182_8, B_182_10, B_182_25, m4, n_eqO, c, n_addO, e1, bI_True, bI_False, p_max, p_min, p_abs, Option.bind_some, Option.bind_none, Option.toList_some, Option.toList_none, List.cons_append, List.nil_append, bI_eq0, bI_ne0, bI_ne1, bI_eq1, bI_01, eq_self, true_or, or_true, and_true, true_and, false_and, and_false, false_or, or_false, ite_true, ite_false, if_true, if_false, not_true, not_false_iff, Classical.not_not, nem, ite_not, ne_eq]
theorem m_sign (T : Sm h) {c : Nat} (tb : tkB c = true) (m7 : hI h 56 47 = mTk c) : Cl (d + 4) 184 [vr (some 56)] h = some (some (vi (sgI c)), h) := by
  obtain ⟨⟨q1, q2, q3, q4, q5⟩, ⟨q6, q7, q8, q9, q10⟩, q11, q12, q13, q14, q15⟩ := mtk tb
  unfold sgI sgT
  by_cases a1 : c = 130
  · simp (decide := true) (disch := (first | assumption | (simp only [Sh_setI, Sm_setI, Sh_setL, Sm_setL]; assumption) | omega)) only [E_184, B_184_0, B_184_8, B_184_13, B_184_21, B_184_26, B_184_35, B_184_40, B_184_49, B_184_54, B_184_63, B_184_68, B_184_77, B_184_82, B_184_91, B_184_96, B_184_97, m7, q10, a1, bI_True, bI_False, p_max, p_min, p_abs, Option.bind_some, Option.bind_none, Option.toList_some, Option.toList_none, List.cons_append, List.nil_append, bI_eq0, bI_ne0, bI_ne1, bI_eq1, bI_01, eq_self, true_or, or_true, and_true, true_and, false_and, and_false, false_or, or_false, ite_true, ite_false, if_true, if_false, not_true, not_false_iff, Classical.not_not, nem, ite_not, ne_eq]; rfl
  · by_cases a2 : c = 131
    · simp (decide := true) (disch := (first | assumption | (simp only [Sh_setI, Sm_setI, Sh_setL, Sm_setL]; assumption) | omega)) only [E_184, B_184_0, B_184_8, B_184_13, B_184_21, B_184_26, B_184_35, B_184_40, B_184_49, B_184_54, B_184_63, B_184_68, B_184_77, B_184_82, B_184_91, B_184_96, B_184_97, m7, q10, q11, a2, bI_True, bI_False, p_max, p_min, p_abs, Option.bind_some, Option.bind_none, Option.toList_some, Option.toList_none, List.cons_append, List.nil_append, bI_eq0, bI_ne0, bI_ne1, bI_eq1, bI_01, eq_self, true_or, or_true, and_true, true_and, false_and, and_false, false_or, or_false, ite_true, ite_false, if_true, if_false, not_true, not_false_iff, Classical.not_not, nem, ite_not, ne_eq]; rfl
    · by_cases a3 : c = 60
      · simp (decide := true) (disch := (first | assumption | (simp only [Sh_setI, Sm_setI, Sh_setL, Sm_setL]; assumption) | omega)) only [E_184, B_184_0, B_184_8, B_184_13, B_184_21, B_184_26, B_184_35, B_184_40, B_184_49, B_184_54, B_184_63, B_184_68, B_184_77, B_184_82, B_184_91, B_184_96, B_184_97, m7, q10, q11, q12, a3, bI_True, bI_False, p_max, p_min, p_abs, Option.bind_some, Option.bind_none, Option.toList_some, Option.toList_none, List.cons_append, List.nil_append, bI_eq0, bI_ne0, bI_ne1, bI_eq1, bI_01, eq_self, true_or, or_true, and_true, true_and, false_and, and_false, false_or, or_false, ite_true, ite_false, if_true, if_false, not_true, not_false_iff, Classical.not_not, nem, ite_not, ne_eq]; rfl
      · by_cases a4 : c = 61
        · simp (decide := true) (disch := (first | assumption | (simp only [Sh_setI, Sm_setI, Sh_setL, Sm_setL]; assumption) | omega)) only [E_184, B_184_0, B_184_8, B_184_13, B_184_21, B_184_26, B_184_35, B_184_40, B_184_49, B_184_54, B_184_63, B_184_68, B_184_77, B_184_82, B_184_91, B_184_96, B_184_97, m7, q10, q11, q12, q13, a4, bI_True, bI_False, p_max, p_min, p_abs, Option.bind_some, Option.bind_none, Option.toList_some, Option.toList_none, List.cons_append, List.nil_append, bI_eq0, bI_ne0, bI_ne1, bI_eq1, bI_01, eq_self, true_or, or_true, and_true, true_and, false_and, and_false, false_or, or_false, ite_true, ite_false, if_true, if_false, not_true, not_false_iff, Classical.not_not, nem, ite_not, ne_eq]; rfl
        · by_cases a5 : c = 43
          · simp (decide := true) (disch := (first | assumption | (simp only [Sh_setI, Sm_setI, Sh_setL, Sm_setL]; assumption) | omega)) only [E_184, B_184_0, B_184_8, B_184_13, B_184_21, B_184_26, B_184_35, B_184_40, B_184_49, B_184_54, B_184_63, B_184_68, B_184_77, B_184_82, B_184_91, B_184_96, B_184_97, m7, q10, q11, q12, q13, q14, a5, bI_True, bI_False, p_max, p_min, p_abs, Option.bind_some, Option.bind_none, Option.toList_some, Option.toList_none, List.cons_append, List.nil_append, bI_eq0, bI_ne0, bI_ne1, bI_eq1, bI_01, eq_self, true_or, or_true, and_true, true_and, false_and, and_false, false_or, or_false, ite_true, ite_false, if_true, if_false, not_true, not_false_iff, Classical.not_not, nem, ite_not, ne_eq]; rfl
          · by_cases a6 : c = 45
            · simp (decide := true) (disch := (first | assumption | (simp only [Sh_setI, Sm_setI, Sh_setL, Sm_setL]; assumption) | omega)) only [E_184, B_184_0, B_184_8, B_184_13, B_184_21, B_184_26, B_184_35, B_184_40, B_184_49, B_184_54, B_184_63, B_184_68, B_184_77, B_184_82, B_184_91, B_184_96, B_184_97, m7, q10, q11, q12, q13, q14, q4, a6, bI_True, bI_False, p_max, p_min, p_abs, Option.bind_some, Option.bind_none, Option.toList_some, Option.toList_none, List.cons_append, List.nil_append, bI_eq0, bI_ne0, bI_ne1, bI_eq1, bI_01, eq_self, true_or, or_true, and_true, true_and, false_and, and_false, false_or, or_false, ite_true, ite_false, if_true, if_false, not_true, not_false_iff, Classical.not_not, nem, ite_not, ne_eq]; rfl
            · by_cases a7 : c = 42
              · simp (decide := true) (disch := (first | assumption | (simp only [Sh_setI, Sm_setI, Sh_setL, Sm_setL]; assumption) | omega)) only [E_184, B_184_0, B_184_8, B_184_13, B_184_21, B_184_26, B_184_35, B_184_40, B_184_49, B_184_54, B_184_63, B_184_68, B_184_77, B_184_82, B_184_91, B_184_96, B_184_97, m7, q10, q11, q12, q13, q14, q4, q15, a7, bI_True, bI_False, p_max, p_min, p_abs, Option.bind_some, Option.bind_none, Option.toList_some, Option.toList_none, List.cons_append, List.nil_append, bI_eq0, bI_ne0, bI_ne1, bI_eq1, bI_01, eq_self, true_or, or_true, and_true, true_and, false_and, and_false, false_or, or_false, ite_true, ite_false, if_true, if_false, not_true, not_false_iff, Classical.not_not, nem, ite_not, ne_eq]; rfl
              · simp (decide := true) (disch := (first | assumption | (simp only [Sh_setI, Sm_setI, Sh_setL, Sm_setL]; assumption) | omega)) only [E_184, B_184_0, B_184_8, B_184_13, B_184_21, B_184_26, B_184_35, B_184_40, B_184_49, B_184_54, B_184_63, B_184_68, B_184_77, B_184_82, B_184_91, B_184_96, B_184_97, m7, q10, q11, q12, q13, q14, q4, q15, a1, a2, a3, a4, a5, a6, a7, bI_True, bI_False, p_max, p_min, p_abs, Option.bind_some, Option.bind_none, Option.toList_some, Option.toList_none, List.cons_append, List.nil_append, bI_eq0, bI_ne0, bI_ne1, bI_eq1, bI_01, eq_self, true_or, or_true, and_true, true_and, false_and, and_false, false_or, or_false, ite_true, ite_false, if_true, if_false, not_true, not_false_iff, Classical.not_not, nem, ite_not, ne_eq]
theorem m_between (T : Sm h) {R : Nat} (hR6 : R < 6) {st : List Nat} {a : List tOp} (M : Mst R st a h) (ok : ∀ s, s ∈ st → okS s) (hl2 : st.length + a.length ≤ 198) {s : Nat} (hs' : s = 11 ∨ s = 12 ∨ (14 ≤ s ∧ s ≤ 18)) : ∃ h1, Cl (d + 12) 185 [vr (some 56), vi (nI s)] h = some (some (vi (bI (¬ (rkS s = 4 ∧ topR (unw (if rkS s = 4 then 5 else rkS s) st a).1 = 4)))), h1) ∧ Fu R h h1 ∧ (¬ (rkS s = 4 ∧ topR (unw (if rkS s = 4 then 5 else rkS s) st a).1 = 4) → Mst R (s :: (unw (if rkS s = 4 then 5 else rkS s) st a).1) (unw (if rkS s = 4 then 5 else rkS s) st a).2 h1) := by
  have r16 : 1 ≤ rkS s ∧ rkS s ≤ 6 := by
    rcases (by omega : s = 11 ∨ s = 12 ∨ s = 14 ∨ s = 15 ∨ s = 16 ∨ s = 17 ∨ s = 18) with rfl | rfl | rfl | rfl | rfl | rfl | rfl <;> decide
  have k56 : hkd h 56 = 11 := T.kd (n := 56) (k := 11) rfl rfl
  have mr := fun d h => m_rank (d := d) (h := h) (show s < 100 by omega)
  obtain ⟨h1, e1, F1, M1⟩ := m_unwC (d := d + 3) hR6 (l := if rkS s = 4 then 5 else rkS s) (by split <;> omega) T M ok (by omega)
  have T1 := F1.1.sm T
  have unw_sub : ∀ (l : Nat) (st : List Nat) (a : List tOp), (unw l st a).1.length ≤ st.length ∧ (unw l st a).1.length + (unw l st a).2.length ≤ st.length + a.length ∧ ∀ x, x ∈ (unw l st a).1 → x ∈ st := by
    intro l st
    induction st with
    | nil => intro a; exact ⟨Nat.le_refl _, Nat.le_refl _, fun x hx => hx⟩
    | cons y st ih =>
      intro a
      rw [unw]
      split
      · obtain ⟨i1, i2, i3⟩ := ih (a ++ [opS y])
        rw [List.length_append] at i2
        have : [opS y].length = 1 := rfl
        exact ⟨by show _ ≤ st.length + 1; omega, by show _ ≤ st.length + 1 + a.length; omega, fun x hx => List.mem_cons_of_mem _ (i3 x hx)⟩
      · exact ⟨Nat.le_refl _, Nat.le_refl _, fun x hx => hx⟩
  obtain ⟨u1, u2, u3⟩ := unw_sub (if rkS s = 4 then 5 else rkS s) st a
  have head : Cl (d + 12) 185 [vr (some 56), vi (nI s)] h = Ev (d + 12) 185 24 [vr (some 56), vi (nI s)] [vi (nI (rkS s))] h1 := by
    by_cases r4 : rkS s = 4
    · rw [if_pos r4] at e1
      rw [show nI 5 = (5 : Int32) from rfl] at e1
      simp (decide := true) (disch := (first | assumption | (simp only [Sh_setI, Sm_setI, Sh_setL, Sm_setL]; assumption) | omega)) only [E_185, B_185_0, B_185_5, B_185_9, B_185_17, B_185_20, mr, n_eqO, r4, k56, e1, bI_True, bI_False, p_max, p_min, p_abs, Option.bind_some, Option.bind_none, Option.toList_some, Option.toList_none, List.cons_append, List.nil_append, bI_eq0, bI_ne0, bI_ne1, bI_eq1, bI_01, eq_self, true_or, or_true, and_true, true_and, false_and, and_false, false_or, or_false, ite_true, ite_false, if_true, if_false, not_true, not_false_iff, Classical.not_not, nem, ite_not, ne_eq]
    · rw [if_neg r4] at e1
      simp (decide := true) (disch := (first | assumption | (simp only [Sh_setI, Sm_setI, Sh_setL, Sm_setL]; assumption) | omega)) only [E_185, B_185_0, B_185_5, B_185_13, B_185_17, B_185_20, mr, n_eqO, r4, k56, e1, bI_True, bI_False, p_max, p_min, p_abs, Option.bind_some, Option.bind_none, Option.toList_some, Option.toList_none, List.cons_append, List.nil_append, bI_eq0, bI_ne0, bI_ne1, bI_eq1, bI_01, eq_self, true_or, or_true, and_true, true_and, false_and, and_false, false_or, or_false, ite_true, ite_false, if_true, if_false, not_true, not_false_iff, Classical.not_not, nem, ite_not, ne_eq]
  rw [head]
  generalize (unw (if rkS s = 4 then 5 else rkS s) st a).1 = st1 at *
  generalize (unw (if rkS s = 4 then 5 else rkS s) st a).2 = a1 at *
  obtain ⟨m1, ⟨m2, m3⟩, m4, m5, m6⟩ := id M1
  obtain ⟨h2, e2, F2, M2⟩ := m_push (d := d + 7) T1 (R := R) (st := st1) (a := a1) m1 m2 m3 m4 m5 m6 (by omega) (s := s) (by rw [cntS, if_neg (by omega), Nat.zero_add])
  by_cases r4 : rkS s = 4
  · cases st1 with
    | nil =>
      have m20 : hI h1 56 51 = nI 0 := m2
      have c : ¬ (rkS s = 4 ∧ topR [] = 4) := fun w => absurd w.2 (by decide)
      refine ⟨h2, ?_, F1.tr F2, fun _ => M2⟩
      rw [bI_T c]
      simp (decide := true) (disch := (first | assumption | (simp only [Sh_setI, Sm_setI, Sh_setL, Sm_setL]; assumption) | omega)) only [B_185_24, n_eqO, r4, B_185_28 T1, m20, n_leO, B_185_55 T1, e2, B_185_60, bI_True, bI_False, p_max, p_min, p_abs, Option.bind_some, Option.bind_none, Option.toList_some, Option.toList_none, List.cons_append, List.nil_append, bI_eq0, bI_ne0, bI_ne1, bI_eq1, bI_01, eq_self, true_or, or_true, and_true, true_and, false_and, and_false, false_or, or_false, ite_true, ite_false, if_true, if_false, not_true, not_false_iff, Classical.not_not, nem, ite_not, ne_eq]
    | cons y st1 =>
      have m20 : hI h1 56 51 = nI (st1.length + 1) := m2
      have top : hI h1 86 st1.length = nI y := m3 0 y rfl
      have oky := ok y (u3 y (List.mem_cons_self))
      have my := fun d => m_rank (d := d) (h := h1) (show y < 100 by unfold okS at oky; omega)
      have ls : (y :: st1).length = st1.length + 1 := rfl
      rw [ls] at u1 u2
      by_cases t4 : rkS y = 4
      · have c : (rkS s = 4 ∧ topR (y :: st1) = 4) := ⟨r4, t4⟩
        refine ⟨h1, ?_, F1, fun w => absurd c w⟩
        rw [bI_F (fun w => w c)]
        simp (decide := true) (disch := (first | assumption | (simp only [Sh_setI, Sm_setI, Sh_setL, Sm_setL]; assumption) | omega)) only [B_185_24, n_eqO, r4, B_185_28 T1, m20, n_leO, show ¬ st1.length + 1 ≤ 0 by omega, B_185_35 T1, n_subO, Nat.le_add_left, Nat.add_sub_cancel, n_ix, n_cl, top, my, t4, B_185_49, B_185_53, bI_True, bI_False, p_max, p_min, p_abs, Option.bind_some, Option.bind_none, Option.toList_some, Option.toList_none, List.cons_append, List.nil_append, bI_eq0, bI_ne0, bI_ne1, bI_eq1, bI_01, eq_self, true_or, or_true, and_true, true_and, false_and, and_false, false_or, or_false, ite_true, ite_false, if_true, if_false, not_true, not_false_iff, Classical.not_not, nem, ite_not, ne_eq]
      · have c : ¬ (rkS s = 4 ∧ topR (y :: st1) = 4) := fun w => t4 w.2
        have r7 : rkS y ≤ 7 := by unfold rkS; repeat' split
                                  all_goals omega
        refine ⟨h2, ?_, F1.tr F2, fun _ => M2⟩
        rw [bI_T c]
        simp (decide := true) (disch := (first | assumption | (simp only [Sh_setI, Sm_setI, Sh_setL, Sm_setL]; assumption) | omega)) only [B_185_24, n_eqO, r4, B_185_28 T1, m20, n_leO, show ¬ st1.length + 1 ≤ 0 by omega, B_185_35 T1, n_subO, Nat.le_add_left, Nat.add_sub_cancel, n_ix, n_cl, top, my, t4, B_185_49, B_185_55 T1, e2, B_185_60, bI_True, bI_False, p_max, p_min, p_abs, Option.bind_some, Option.bind_none, Option.toList_some, Option.toList_none, List.cons_append, List.nil_append, bI_eq0, bI_ne0, bI_ne1, bI_eq1, bI_01, eq_self, true_or, or_true, and_true, true_and, false_and, and_false, false_or, or_false, ite_true, ite_false, if_true, if_false, not_true, not_false_iff, Classical.not_not, nem, ite_not, ne_eq]
  · have c : ¬ (rkS s = 4 ∧ topR st1 = 4) := fun w => r4 w.1
    refine ⟨h2, ?_, F1.tr F2, fun _ => M2⟩
    rw [bI_T c]
    simp (decide := true) (disch := (first | assumption | (simp only [Sh_setI, Sm_setI, Sh_setL, Sm_setL]; assumption) | omega)) only [B_185_24, n_eqO, r4, B_185_55 T1, e2, B_185_60, bI_True, bI_False, p_max, p_min, p_abs, Option.bind_some, Option.bind_none, Option.toList_some, Option.toList_none, List.cons_append, List.nil_append, bI_eq0, bI_ne0, bI_ne1, bI_eq1, bI_01, eq_self, true_or, or_true, and_true, true_and, false_and, and_false, false_or, or_false, ite_true, ite_false, if_true, if_false, not_true, not_false_iff, Classical.not_not, nem, ite_not, ne_eq]
end MREAD
