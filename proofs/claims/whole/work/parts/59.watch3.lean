/-! watch -/
def watchG (D mst : Nat) (cnt : Nat → Nat) : Nat → Nat → Nat → Nat → Nat × Nat
  | 0, _, b, fd => (b, fd)
  | j + 1, s, b, fd => if popS s D ≤ mst ∧ b < cnt s then watchG D mst cnt j (s + 1) (cnt s) s else watchG D mst cnt j (s + 1) b fd
theorem popS_le (s : Nat) : ∀ k, popS s k ≤ k := by
  intro k
  induction k with
  | zero => exact Nat.le_refl _
  | succ k ih => rw [popS]; omega
theorem popS_0 : ∀ k, popS 0 k = 0 := by
  intro k
  induction k with
  | zero => rfl
  | succ k ih => rw [popS, ih, Nat.zero_div]
theorem anyB_0 (P : Nat → Bool) : ∀ k, anyB P 0 k = false := by
  intro k
  induction k with
  | zero => rfl
  | succ k ih => rw [anyB, ih, Nat.zero_div]; rfl
section WATCH3
variable {d : Nat} {h : am_H}
theorem c_wloop {s0 z D mst p : Nat} {P : Nat → Nat → Bool} {a3 : Int32} (hs0 : s0 < 4) (hz : z ≤ 40) (hD : D ≤ 8) (hp : p = 2 ^ D) (hp2 : p ≤ 256) (hm : mst ≤ 8) (S : Sh h) (qd : hI h 1 4 = nI D) (q1 : hI h (45 + 2 * s0) 2 = nI z) : ∀ j s b fd h' (a7 : am_V), s + j = p → b ≤ 40 → Fi (fun a => a = 1 ∨ a = 34) h h' → (∀ q, q < z → hI h' 34 q = nI (mkM (P q) D)) → (∀ q, hI h' 1 q = if q = 17 then nI fd else hI h 1 q) → ∃ h1, Ev (d + 9) 113 76 [vr (some 1), vi (nI s0), vi (nI mst), vi a3, vr (some (45 + 2 * s0)), vi (nI b), vi (nI s), a7] [] h' = some (some (vi (nI (watchG D mst (fun s => cntN (fun i => anyB (P i) s D) z 0 0) j s b fd).1)), h1) ∧ Fi (fun a => a = 1 ∨ a = 34) h h1 ∧ ∀ q, hI h1 1 q = if q = 17 then nI (watchG D mst (fun s => cntN (fun i => anyB (P i) s D) z 0 0) j s b fd).2 else hI h 1 q := by
  intro j
  induction j with
  | zero =>
    intro s b fd h' a7 e hb F v w
    have S' := F.sh S
    refine ⟨h', ?_, F, w⟩
    rw [B_113_76 S', w]
    simp (decide := true) (disch := (first | assumption | (simp only [Sh_setI, Sm_setI, Sh_setL, Sm_setL]; assumption) | omega)) only [qd, sh_1, ← hp, n_le, show p ≤ s by omega, B_113_136, watchG, bI_True, bI_False, p_max, p_min, p_abs, Option.bind_some, Option.bind_none, Option.toList_some, Option.toList_none, List.cons_append, List.nil_append, bI_eq0, bI_ne0, bI_ne1, bI_eq1, bI_01, eq_self, true_or, or_true, and_true, true_and, false_and, and_false, false_or, or_false, ite_true, ite_false, if_true, if_false, not_true, not_false_iff, Classical.not_not, nem, ite_not, ne_eq]
  | succ j ih =>
    intro s b fd h' a7 e hb F v w
    have S' := F.sh S
    obtain ⟨p1, p2, p3, p4, p5⟩ := sh_s S' hs0
    have q1' : hI h' (45 + 2 * s0) 2 = nI z := by rw [F.2.2.2.2.2 _ (by omega)]; exact q1
    have eb : Cl (d + 8) 218 [vi (nI s)] h' = some (some (vi (nI (popS s D))), h') := by
      rw [← bcF_pop D (by omega) s (by omega)]
      rw [E_218, B_218_0]
      rfl
    have ec : Cl (d + 8) 118 [vr (some 1), vi (nI z), vi (nI s)] h' = some (some (vi (nI (cntN (fun i => anyB (P i) s D) z 0 0))), h') := by
      rw [E_118, B_118_0]
      exact c_hmn (d := d + 2) S' hz (by omega) hD v z 0 0 (by omega) (by omega)
    have cl0 := cntN_le (Q := fun i => anyB (P i) s D) z 0 0
    have pl0 := popS_le s D
    rw [watchG]
    generalize cntN (fun i => anyB (P i) s D) z 0 0 = cn at *
    rw [B_113_76 S', w]
    by_cases g : popS s D ≤ mst
    · by_cases g2 : b < cn
      · rw [if_pos (show popS s D ≤ mst ∧ b < cn from ⟨g, g2⟩)]
        obtain ⟨h1, e1, F1, w1⟩ := ih (s + 1) cn s (setI h' 1 17 (nI s)) (vi (nI cn)) (by omega) (by omega) (F.si (Or.inl rfl)) (fun q hq => by rw [hI_ne (by omega)]; exact v q hq) (fun q => by
          rw [hI_eq, w]
          by_cases c : q = 17
          · rw [if_pos c, if_pos c]
          · rw [if_neg c, if_neg c, if_neg c])
        refine ⟨h1, ?_, F1, w1⟩
        simp (decide := true) (disch := (first | assumption | (simp only [Sh_setI, Sm_setI, Sh_setL, Sm_setL]; assumption) | omega)) only [qd, sh_1, ← hp, n_le, show ¬ p ≤ s by omega, B_113_87, eb, B_113_92, n_lt, show ¬ mst < popS s D by omega, B_113_96 S', p2, q1', ec, B_113_107, B_113_111, show ¬ cn ≤ b by omega, B_113_120 S', B_113_130, n_addO, bI_True, bI_False, p_max, p_min, p_abs, Option.bind_some, Option.bind_none, Option.toList_some, Option.toList_none, List.cons_append, List.nil_append, bI_eq0, bI_ne0, bI_ne1, bI_eq1, bI_01, eq_self, true_or, or_true, and_true, true_and, false_and, and_false, false_or, or_false, ite_true, ite_false, if_true, if_false, not_true, not_false_iff, Classical.not_not, nem, ite_not, ne_eq]
        exact e1
      · rw [if_neg (show ¬ (popS s D ≤ mst ∧ b < cn) from fun x => g2 x.2)]
        obtain ⟨h1, e1, F1, w1⟩ := ih (s + 1) b fd h' (vi (nI cn)) (by omega) (by omega) F v w
        refine ⟨h1, ?_, F1, w1⟩
        simp (decide := true) (disch := (first | assumption | (simp only [Sh_setI, Sm_setI, Sh_setL, Sm_setL]; assumption) | omega)) only [qd, sh_1, ← hp, n_le, show ¬ p ≤ s by omega, B_113_87, eb, B_113_92, n_lt, show ¬ mst < popS s D by omega, B_113_96 S', p2, q1', ec, B_113_107, B_113_111, show cn ≤ b by omega, B_113_130, n_addO, bI_True, bI_False, p_max, p_min, p_abs, Option.bind_some, Option.bind_none, Option.toList_some, Option.toList_none, List.cons_append, List.nil_append, bI_eq0, bI_ne0, bI_ne1, bI_eq1, bI_01, eq_self, true_or, or_true, and_true, true_and, false_and, and_false, false_or, or_false, ite_true, ite_false, if_true, if_false, not_true, not_false_iff, Classical.not_not, nem, ite_not, ne_eq]
        exact e1
    · rw [if_neg (show ¬ (popS s D ≤ mst ∧ b < cn) from fun x => g x.1)]
      obtain ⟨h1, e1, F1, w1⟩ := ih (s + 1) b fd h' (vi 0) (by omega) (by omega) F v w
      refine ⟨h1, ?_, F1, w1⟩
      simp (decide := true) (disch := (first | assumption | (simp only [Sh_setI, Sm_setI, Sh_setL, Sm_setL]; assumption) | omega)) only [qd, sh_1, ← hp, n_le, show ¬ p ≤ s by omega, B_113_87, eb, B_113_92, n_lt, show mst < popS s D by omega, B_113_110, B_113_111, n_Ole, Nat.zero_le, B_113_130, n_addO, bI_True, bI_False, p_max, p_min, p_abs, Option.bind_some, Option.bind_none, Option.toList_some, Option.toList_none, List.cons_append, List.nil_append, bI_eq0, bI_ne0, bI_ne1, bI_eq1, bI_01, eq_self, true_or, or_true, and_true, true_and, false_and, and_false, false_or, or_false, ite_true, ite_false, if_true, if_false, not_true, not_false_iff, Classical.not_not, nem, ite_not, ne_eq]
      exact e1
theorem m_pop (T : Sm h) {D s p : Nat} (hD : D ≤ 8) (qd : hI h 56 4 = nI D) (hs' : s < 256) {a1 a2 a3 a4 a5 : Int32} : ∀ j e, e + j = D → Ev (d + 9) 205 126 [vr (some 56), vi a1, vi a2, vi a3, vi a4, vi a5, vi (nI s), vi (nI (popS s e)), vi (nI e)] [] h = Ev (d + 9) 205 153 [vr (some 56), vi a1, vi a2, vi a3, vi a4, vi a5, vi (nI s), vi (nI (popS s D)), vi (nI D)] [] h := by
  intro j
  induction j with
  | zero =>
    intro e q
    have : e = D := by omega
    subst this
    rw [B_205_126 T]
    simp (decide := true) (disch := (first | assumption | (simp only [Sh_setI, Sm_setI, Sh_setL, Sm_setL]; assumption) | omega)) only [qd, n_le, Nat.le_refl, bI_True, bI_False, p_max, p_min, p_abs, Option.bind_some, Option.bind_none, Option.toList_some, Option.toList_none, List.cons_append, List.nil_append, bI_eq0, bI_ne0, bI_ne1, bI_eq1, bI_01, eq_self, true_or, or_true, and_true, true_and, false_and, and_false, false_or, or_false, ite_true, ite_false, if_true, if_false, not_true, not_false_iff, Classical.not_not, nem, ite_not, ne_eq]
  | succ j ih =>
    intro e q
    have := popS_le s e
    have nx := ih (e + 1) (by omega)
    rw [popS] at nx
    rw [B_205_126 T]
    simp (decide := true) (disch := (first | assumption | (simp only [Sh_setI, Sm_setI, Sh_setL, Sm_setL]; assumption) | omega)) only [qd, n_le, show ¬ D ≤ e by omega, B_205_135, sh_b, n_add, n_addO, bI_True, bI_False, p_max, p_min, p_abs, Option.bind_some, Option.bind_none, Option.toList_some, Option.toList_none, List.cons_append, List.nil_append, bI_eq0, bI_ne0, bI_ne1, bI_eq1, bI_01, eq_self, true_or, or_true, and_true, true_and, false_and, and_false, false_or, or_false, ite_true, ite_false, if_true, if_false, not_true, not_false_iff, Classical.not_not, nem, ite_not, ne_eq]
    exact nx
theorem m_wstep (T : Sm h) {s0 z s f D mst p : Nat} (hs0 : s0 < 4) (hp : p = 2 ^ D) (hp2 : p ≤ 256) (hs' : s < p) (hm : mst ≤ 8) (hD : D ≤ 8) (hf : f ≤ 180) (qd : hI h 56 4 = nI D) {dr w : Nat → Nat} (hdr : ∀ k, k < D → dr k < 360 ∧ hI h 59 k = nI (dr k)) (hz : z ≤ 40) (q1 : hI h 83 s0 = nI z) (hw : ∀ i, i < z → w i < 360 ∧ hI h 84 (40 * s0 + i) = nI (w i)) {a4 a5 : Int32} {a7 a8 : am_V} : Ev (d + 13) 205 109 [vr (some 56), vi (nI s0), vi (nI mst), vi (nI f), vi a4, vi a5, vi (nI s), a7, a8] [] h = Ev (d + 13) 205 171 [vr (some 56), vi (nI s0), vi (nI mst), vi (nI f), vi a4, vi a5, vi (nI s), vi (nI (popS s D)), vi (nI D)] [vi (if popS s D ≤ mst then nI (cntN (fun i => anyB (nrB w dr f i) s D) z 0 0) else -1)] h := by
  have pl0 := popS_le s D
  have e1 := m_pop (d := d + 4) (p := p) T hD qd (show s < 256 by omega) (a1 := nI s0) (a2 := nI mst) (a3 := nI f) (a4 := a4) (a5 := a5) D 0 (by omega)
  have e2 : Cl (d + 12) 206 [vr (some 56), vi (nI s0), vi (nI s), vi (nI f)] h = some (some (vi (nI (cntN (fun i => anyB (nrB w dr f i) s D) z 0 0))), h) := by
    rw [E_206, B_206_0]
    exact m_near2 (d := d + 3) T hs0 (by omega) hD hf qd hdr hz q1 hw z 0 0 vu vu (by omega) (by omega)
  rw [B_205_109 T]
  simp (decide := true) (disch := (first | assumption | (simp only [Sh_setI, Sm_setI, Sh_setL, Sm_setL]; assumption) | omega)) only [qd, sh_1, ← hp, n_le, show ¬ p ≤ s by omega, B_205_120, bI_True, bI_False, p_max, p_min, p_abs, Option.bind_some, Option.bind_none, Option.toList_some, Option.toList_none, List.cons_append, List.nil_append, bI_eq0, bI_ne0, bI_ne1, bI_eq1, bI_01, eq_self, true_or, or_true, and_true, true_and, false_and, and_false, false_or, or_false, ite_true, ite_false, if_true, if_false, not_true, not_false_iff, Classical.not_not, nem, ite_not, ne_eq]
  refine e1.trans ?_
  by_cases g : popS s D ≤ mst
  · rw [if_pos g]
    simp (decide := true) (disch := (first | assumption | (simp only [Sh_setI, Sm_setI, Sh_setL, Sm_setL]; assumption) | omega)) only [B_205_153, n_lt, show ¬ mst < popS s D by omega, B_205_159 T, e2, B_205_167, bI_True, bI_False, p_max, p_min, p_abs, Option.bind_some, Option.bind_none, Option.toList_some, Option.toList_none, List.cons_append, List.nil_append, bI_eq0, bI_ne0, bI_ne1, bI_eq1, bI_01, eq_self, true_or, or_true, and_true, true_and, false_and, and_false, false_or, or_false, ite_true, ite_false, if_true, if_false, not_true, not_false_iff, Classical.not_not, nem, ite_not, ne_eq]
  · rw [if_neg g]
    simp (decide := true) (disch := (first | assumption | (simp only [Sh_setI, Sm_setI, Sh_setL, Sm_setL]; assumption) | omega)) only [B_205_153, n_lt, show mst < popS s D by omega, B_205_170, bI_True, bI_False, p_max, p_min, p_abs, Option.bind_some, Option.bind_none, Option.toList_some, Option.toList_none, List.cons_append, List.nil_append, bI_eq0, bI_ne0, bI_ne1, bI_eq1, bI_01, eq_self, true_or, or_true, and_true, true_and, false_and, and_false, false_or, or_false, ite_true, ite_false, if_true, if_false, not_true, not_false_iff, Classical.not_not, nem, ite_not, ne_eq]
theorem m_wloop {s0 z f D mst p : Nat} (hs0 : s0 < 4) (hp : p = 2 ^ D) (hp2 : p ≤ 256) (hm : mst ≤ 8) (hD : D ≤ 8) (hf : f ≤ 180) (T : Sm h) (qd : hI h 56 4 = nI D) {dr w : Nat → Nat} (hdr : ∀ k, k < D → dr k < 360 ∧ hI h 59 k = nI (dr k)) (hz : z ≤ 40) (q1 : hI h 83 s0 = nI z) (hw : ∀ i, i < z → w i < 360 ∧ hI h 84 (40 * s0 + i) = nI (w i)) {a4 : Int32} : ∀ j s b fd h' (a7 a8 : am_V), s + j = p → b ≤ 40 → Fi (fun a => a = 56) h h' → (∀ q, hI h' 56 q = if q = 30 then nI fd else hI h 56 q) → ∃ h1, Ev (d + 13) 205 109 [vr (some 56), vi (nI s0), vi (nI mst), vi (nI f), vi a4, vi (nI b), vi (nI s), a7, a8] [] h' = some (some (vi (nI (watchG D mst (fun s => cntN (fun i => anyB (nrB w dr f i) s D) z 0 0) j s b fd).1)), h1) ∧ Fi (fun a => a = 56) h h1 ∧ ∀ q, hI h1 56 q = if q = 30 then nI (watchG D mst (fun s => cntN (fun i => anyB (nrB w dr f i) s D) z 0 0) j s b fd).2 else hI h 56 q := by
  intro j
  induction j with
  | zero =>
    intro s b fd h' a7 a8 e hb F v
    refine ⟨h', ?_, F, v⟩
    rw [B_205_109 (F.sm T), v]
    simp (decide := true) (disch := (first | assumption | (simp only [Sh_setI, Sm_setI, Sh_setL, Sm_setL]; assumption) | omega)) only [qd, sh_1, ← hp, n_le, show p ≤ s by omega, B_205_196, watchG, bI_True, bI_False, p_max, p_min, p_abs, Option.bind_some, Option.bind_none, Option.toList_some, Option.toList_none, List.cons_append, List.nil_append, bI_eq0, bI_ne0, bI_ne1, bI_eq1, bI_01, eq_self, true_or, or_true, and_true, true_and, false_and, and_false, false_or, or_false, ite_true, ite_false, if_true, if_false, not_true, not_false_iff, Classical.not_not, nem, ite_not, ne_eq]
  | succ j ih =>
    intro s b fd h' a7 a8 e hb F v
    have T' := F.sm T
    have st := F.2.2.2.2.2
    have stp := m_wstep (d := d) T' hs0 hp hp2 (show s < p by omega) hm hD hf (by rw [v, if_neg (by decide)]; exact qd) (fun k hk => by rw [st 59 (by omega)]; exact hdr k hk) hz (by rw [st 83 (by omega)]; exact q1) (fun k hk => by rw [st 84 (by omega)]; exact hw k hk) (a4 := a4) (a5 := nI b) (a7 := a7) (a8 := a8)
    rw [stp]
    have cl0 := cntN_le (Q := fun i => anyB (nrB w dr f i) s D) z 0 0
    rw [watchG]
    generalize cntN (fun i => anyB (nrB w dr f i) s D) z 0 0 = cn at *
    by_cases g : popS s D ≤ mst
    · rw [if_pos g]
      by_cases g2 : b < cn
      · rw [if_pos (show popS s D ≤ mst ∧ b < cn from ⟨g, g2⟩)]
        obtain ⟨h1, e1, F1, w1⟩ := ih (s + 1) cn s (setI h' 56 30 (nI s)) (vi (nI (popS s D))) (vi (nI cn)) (by omega) (by omega) (F.si rfl) (fun q => by
          rw [hI_eq, v]
          by_cases c : q = 30
          · rw [if_pos c, if_pos c]
          · rw [if_neg c, if_neg c, if_neg c])
        refine ⟨h1, ?_, F1, w1⟩
        simp (decide := true) (disch := (first | assumption | (simp only [Sh_setI, Sm_setI, Sh_setL, Sm_setL]; assumption) | omega)) only [B_205_171, n_le, show ¬ cn ≤ b by omega, B_205_180 T', B_205_190, n_addO, bI_True, bI_False, p_max, p_min, p_abs, Option.bind_some, Option.bind_none, Option.toList_some, Option.toList_none, List.cons_append, List.nil_append, bI_eq0, bI_ne0, bI_ne1, bI_eq1, bI_01, eq_self, true_or, or_true, and_true, true_and, false_and, and_false, false_or, or_false, ite_true, ite_false, if_true, if_false, not_true, not_false_iff, Classical.not_not, nem, ite_not, ne_eq]
        exact e1
      · rw [if_neg (show ¬ (popS s D ≤ mst ∧ b < cn) from fun x => g2 x.2)]
        obtain ⟨h1, e1, F1, w1⟩ := ih (s + 1) b fd h' (vi (nI (popS s D))) (vi (nI cn)) (by omega) (by omega) F v
        refine ⟨h1, ?_, F1, w1⟩
        simp (decide := true) (disch := (first | assumption | (simp only [Sh_setI, Sm_setI, Sh_setL, Sm_setL]; assumption) | omega)) only [B_205_171, n_le, show cn ≤ b by omega, B_205_190, n_addO, bI_True, bI_False, p_max, p_min, p_abs, Option.bind_some, Option.bind_none, Option.toList_some, Option.toList_none, List.cons_append, List.nil_append, bI_eq0, bI_ne0, bI_ne1, bI_eq1, bI_01, eq_self, true_or, or_true, and_true, true_and, false_and, and_false, false_or, or_false, ite_true, ite_false, if_true, if_false, not_true, not_false_iff, Classical.not_not, nem, ite_not, ne_eq]
        exact e1
    · rw [if_neg g, if_neg (show ¬ (popS s D ≤ mst ∧ b < cn) from fun x => g x.1)]
      obtain ⟨h1, e1, F1, w1⟩ := ih (s + 1) b fd h' (vi (nI (popS s D))) (vi (-1)) (by omega) (by omega) F v
      refine ⟨h1, ?_, F1, w1⟩
      have m1 : (-1 : Int32) ≤ nI b := Int32.le_trans (by decide) (nI_pos' (show b < 2147483648 by omega))
      simp (decide := true) (disch := (first | assumption | (simp only [Sh_setI, Sm_setI, Sh_setL, Sm_setL]; assumption) | omega)) only [B_205_171, m1, B_205_190, n_addO, bI_True, bI_False, p_max, p_min, p_abs, Option.bind_some, Option.bind_none, Option.toList_some, Option.toList_none, List.cons_append, List.nil_append, bI_eq0, bI_ne0, bI_ne1, bI_eq1, bI_01, eq_self, true_or, or_true, and_true, true_and, false_and, and_false, false_or, or_false, ite_true, ite_false, if_true, if_false, not_true, not_false_iff, Classical.not_not, nem, ite_not, ne_eq]
      exact e1
theorem m_allP {s0 z : Nat} (T : Sm h) (hs0 : s0 < 4) (hz : z ≤ 40) (q1 : hI h 83 s0 = nI z) {a2 a3 : Int32} : ∀ j k, k + j = z → ∃ a5, Ev (d + 9) 205 56 [vr (some 56), vi (nI s0), vi a2, vi a3, vi 1, vi (nI k), vu, vu, vu] [] h = Ev (d + 9) 205 95 [vr (some 56), vi (nI s0), vi a2, vi a3, vi (bI (allP (fun q => hI h 84 (40 * s0 + q)) j k = true)), vi a5, vu, vu, vu] [] h := by
  intro j
  induction j with
  | zero =>
    intro k e
    refine ⟨nI k, ?_⟩
    rw [B_205_56 T]
    simp (decide := true) (disch := (first | assumption | (simp only [Sh_setI, Sm_setI, Sh_setL, Sm_setL]; assumption) | omega)) only [n_ix, n_cl, q1, n_le, show z ≤ k by omega, allP, bI_True, bI_False, p_max, p_min, p_abs, Option.bind_some, Option.bind_none, Option.toList_some, Option.toList_none, List.cons_append, List.nil_append, bI_eq0, bI_ne0, bI_ne1, bI_eq1, bI_01, eq_self, true_or, or_true, and_true, true_and, false_and, and_false, false_or, or_false, ite_true, ite_false, if_true, if_false, not_true, not_false_iff, Classical.not_not, nem, ite_not, ne_eq]
  | succ j ih =>
    intro k e
    by_cases p : 0 ≤ hI h 84 (40 * s0 + k) ∧ hI h 84 (40 * s0 + k) ≤ 359
    · obtain ⟨a5, e5⟩ := ih (k + 1) (by omega)
      refine ⟨a5, ?_⟩
      rw [B_205_56 T]
      simp (decide := true) (disch := (first | assumption | (simp only [Sh_setI, Sm_setI, Sh_setL, Sm_setL]; assumption) | omega)) only [n_ix, n_cl, q1, n_le, show ¬ z ≤ k by omega, B_205_67, reduceCtorEq, B_205_72 T, n_Omul, n_add, m_isPlace, p, B_205_87, n_addO, allP, bI_True, bI_False, p_max, p_min, p_abs, Option.bind_some, Option.bind_none, Option.toList_some, Option.toList_none, List.cons_append, List.nil_append, bI_eq0, bI_ne0, bI_ne1, bI_eq1, bI_01, eq_self, true_or, or_true, and_true, true_and, false_and, and_false, false_or, or_false, ite_true, ite_false, if_true, if_false, not_true, not_false_iff, Classical.not_not, nem, ite_not, ne_eq]
      exact e5
    · refine ⟨nI (k + 1), ?_⟩
      rw [B_205_56 T]
      simp (decide := true) (disch := (first | assumption | (simp only [Sh_setI, Sm_setI, Sh_setL, Sm_setL]; assumption) | omega)) only [n_ix, n_cl, q1, n_le, show ¬ z ≤ k by omega, B_205_67, reduceCtorEq, B_205_72 T, n_Omul, n_add, m_isPlace, p, B_205_87, n_addO, allP, bI_True, bI_False, p_max, p_min, p_abs, Option.bind_some, Option.bind_none, Option.toList_some, Option.toList_none, List.cons_append, List.nil_append, bI_eq0, bI_ne0, bI_ne1, bI_eq1, bI_01, eq_self, true_or, or_true, and_true, true_and, false_and, and_false, false_or, or_false, ite_true, ite_false, if_true, if_false, not_true, not_false_iff, Classical.not_not, nem, ite_not, ne_eq]
      rw [B_205_56 T]
      simp (decide := true) (disch := (first | assumption | (simp only [Sh_setI, Sm_setI, Sh_setL, Sm_setL]; assumption) | omega)) only [n_ix, n_cl, q1, B_205_67, ite_self, bI_True, bI_False, p_max, p_min, p_abs, Option.bind_some, Option.bind_none, Option.toList_some, Option.toList_none, List.cons_append, List.nil_append, bI_eq0, bI_ne0, bI_ne1, bI_eq1, bI_01, eq_self, true_or, or_true, and_true, true_and, false_and, and_false, false_or, or_false, ite_true, ite_false, if_true, if_false, not_true, not_false_iff, Classical.not_not, nem, ite_not, ne_eq]
end WATCH3
