/-! watch: the loops within -/
def allP (w : Nat → Int32) : Nat → Nat → Bool
  | 0, _ => true
  | j + 1, k => if 0 ≤ w k ∧ w k ≤ 359 then allP w j (k + 1) else false
theorem allP_ok {w : Nat → Int32} : ∀ (j k : Nat), allP w j k = true → ∀ q, k ≤ q → q < k + j → 0 ≤ w q ∧ w q ≤ 359 := by
  intro j
  induction j with
  | zero => intro k _ q _ _; omega
  | succ j ih =>
    intro k e q h1 h2
    rw [allP] at e
    by_cases p : 0 ≤ w k ∧ w k ≤ 359
    · rw [if_pos p] at e
      by_cases c : q = k
      · rw [c]; exact p
      · exact ih (k + 1) e q (by omega) (by omega)
    · rw [if_neg p] at e
      exact absurd e (by decide)
theorem allP_cg {w w' : Nat → Int32} : ∀ (j k : Nat), (∀ q, k ≤ q → q < k + j → w q = w' q) → allP w j k = allP w' j k := by
  intro j
  induction j with
  | zero => intro k _; rfl
  | succ j ih =>
    intro k e
    rw [allP, allP, e k (by omega) (by omega), ih (k + 1) (fun q a b => e q (by omega) (by omega))]
def cntN (Q : Nat → Bool) : Nat → Nat → Nat → Nat
  | 0, _, a => a
  | j + 1, k, a => cntN Q j (k + 1) (if Q k = true then a + 1 else a)
theorem cntN_le {Q : Nat → Bool} : ∀ (j k a : Nat), cntN Q j k a ≤ a + j := by
  intro j
  induction j with
  | zero => intro k a; exact Nat.le_refl _
  | succ j ih =>
    intro k a
    rw [cntN]
    have := ih (k + 1) (if Q k = true then a + 1 else a)
    split at this
    · rename_i q; rw [if_pos q]; omega
    · rename_i q; rw [if_neg q]; omega
theorem cntN_no {Q : Nat → Bool} (e : ∀ k, Q k = false) : ∀ (j k a : Nat), cntN Q j k a = a := by
  intro j
  induction j with
  | zero => intro k a; rfl
  | succ j ih =>
    intro k a
    rw [cntN, e k, if_neg (by decide)]
    exact ih _ _
def nrB (w dr : Nat → Nat) (f i k : Nat) : Bool := decide (apN (w i) (dr k) ≤ f)
section WATCH2
variable {d : Nat} {h : am_H}
theorem c_hpo {n r z : Nat} (K : hkd h n = 6) (hr : hR h n 0 = some r) (k1 : hkd h r = 100) (l1 : hln h r = 40) (hz : z ≤ 40) (q1 : hI h n 2 = nI z) : ∀ j k, k + j = z → Ev (d + 6) 116 2 [vr (some n), vi (nI k)] [] h = some (some (vi (bI (allP (hI h r) j k = true))), h) := by
  intro j
  induction j with
  | zero =>
    intro k e
    rw [B_116_2]
    simp (decide := true) (disch := (first | assumption | (simp only [Sh_setI, Sm_setI, Sh_setL, Sm_setL]; assumption) | omega)) only [K, q1, n_le, show z ≤ k by omega, B_116_30, allP, bI_True, bI_False, p_max, p_min, p_abs, Option.bind_some, Option.bind_none, Option.toList_some, Option.toList_none, List.cons_append, List.nil_append, bI_eq0, bI_ne0, bI_ne1, bI_eq1, bI_01, eq_self, true_or, or_true, and_true, true_and, false_and, and_false, false_or, or_false, ite_true, ite_false, if_true, if_false, not_true, not_false_iff, Classical.not_not, nem, ite_not, ne_eq]
  | succ j ih =>
    intro k e
    rw [B_116_2]
    simp (decide := true) (disch := (first | assumption | (simp only [Sh_setI, Sm_setI, Sh_setL, Sm_setL]; assumption) | omega)) only [K, q1, n_le, show ¬ z ≤ k by omega, B_116_10, hr, k1, l1, n_ix, n_cl, c_isPlace, B_116_19, bI_True, bI_False, p_max, p_min, p_abs, Option.bind_some, Option.bind_none, Option.toList_some, Option.toList_none, List.cons_append, List.nil_append, bI_eq0, bI_ne0, bI_ne1, bI_eq1, bI_01, eq_self, true_or, or_true, and_true, true_and, false_and, and_false, false_or, or_false, ite_true, ite_false, if_true, if_false, not_true, not_false_iff, Classical.not_not, nem, ite_not, ne_eq]
    by_cases p : 0 ≤ hI h r k ∧ hI h r k ≤ 359
    · simp (decide := true) (disch := (first | assumption | (simp only [Sh_setI, Sm_setI, Sh_setL, Sm_setL]; assumption) | omega)) only [p, B_116_24, n_addO, allP, bI_True, bI_False, p_max, p_min, p_abs, Option.bind_some, Option.bind_none, Option.toList_some, Option.toList_none, List.cons_append, List.nil_append, bI_eq0, bI_ne0, bI_ne1, bI_eq1, bI_01, eq_self, true_or, or_true, and_true, true_and, false_and, and_false, false_or, or_false, ite_true, ite_false, if_true, if_false, not_true, not_false_iff, Classical.not_not, nem, ite_not, ne_eq]
      exact ih (k + 1) (by omega)
    · simp (decide := true) (disch := (first | assumption | (simp only [Sh_setI, Sm_setI, Sh_setL, Sm_setL]; assumption) | omega)) only [p, B_116_22, allP, reduceCtorEq, bI_True, bI_False, p_max, p_min, p_abs, Option.bind_some, Option.bind_none, Option.toList_some, Option.toList_none, List.cons_append, List.nil_append, bI_eq0, bI_ne0, bI_ne1, bI_eq1, bI_01, eq_self, true_or, or_true, and_true, true_and, false_and, and_false, false_or, or_false, ite_true, ite_false, if_true, if_false, not_true, not_false_iff, Classical.not_not, nem, ite_not, ne_eq]
theorem c_tell1 (S : Sh h) {n z D f i : Nat} (hD : D ≤ 8) (qd : hI h 1 4 = nI D) {dr w : Nat → Nat} (hdr : ∀ k, k < D → dr k < 360 ∧ ∃ p, hR h 7 k = some p ∧ hkd h p = 8 ∧ 88 < p ∧ hI h p 1 = nI (dr k)) (K : hkd h n = 6) {r : Nat} (hr : hR h n 0 = some r) (k1 : hkd h r = 100) (l1 : hln h r = 40) (hn34 : n ≠ 34 ∧ r ≠ 34) (hi : i < z) (hz : z ≤ 40) (hw : w i < 360 ∧ hI h r i = nI (w i)) (hf : f ≤ 180) : ∀ j k h' (a5 : am_V), k + j = D → Fi (fun a => a = 34) h h' → hI h' 34 i = nI (mkM (nrB w dr f i) k) → ∃ h1 a5', Ev (d + 9) 117 20 [vr (some 1), vr (some n), vi (nI f), vi (nI i), vi (nI k), a5] [] h' = Ev (d + 9) 117 79 [vr (some 1), vr (some n), vi (nI f), vi (nI i), vi (nI D), a5'] [] h1 ∧ Fi (fun a => a = 34) h h1 ∧ hI h1 34 i = nI (mkM (nrB w dr f i) D) ∧ ∀ q, q ≠ i → hI h1 34 q = hI h' 34 q := by
  intro j
  induction j with
  | zero =>
    intro k h' a5 e F v
    have S' := F.sh S
    have qd' : hI h' 1 4 = nI D := by rw [F.2.2.2.2.2 1 (by omega)]; exact qd
    have ek : k = D := by omega
    subst ek
    refine ⟨h', a5, ?_, F, v, fun _ _ => rfl⟩
    rw [B_117_20 S']
    simp (decide := true) (disch := (first | assumption | (simp only [Sh_setI, Sm_setI, Sh_setL, Sm_setL]; assumption) | omega)) only [qd', n_le, Nat.le_refl, bI_True, bI_False, p_max, p_min, p_abs, Option.bind_some, Option.bind_none, Option.toList_some, Option.toList_none, List.cons_append, List.nil_append, bI_eq0, bI_ne0, bI_ne1, bI_eq1, bI_01, eq_self, true_or, or_true, and_true, true_and, false_and, and_false, false_or, or_false, ite_true, ite_false, if_true, if_false, not_true, not_false_iff, Classical.not_not, nem, ite_not, ne_eq]
  | succ j ih =>
    intro k h' a5 e F v
    have S' := F.sh S
    have qd' : hI h' 1 4 = nI D := by rw [F.2.2.2.2.2 1 (by omega)]; exact qd
    obtain ⟨c1, p, c2, c3, c4, c5⟩ := hdr k (by omega)
    have c3' : hkd h' p = 8 := by rw [F.2.1]; exact c3
    have c5' : hI h' p 1 = nI (dr k) := by rw [F.2.2.2.2.2 p (by omega)]; exact c5
    have c2' : hR h' 7 k = some p := by rw [F.2.2.2.1]; exact c2
    have K' : hkd h' n = 6 := by rw [F.2.1]; exact K
    have hr' : hR h' n 0 = some r := by rw [F.2.2.2.1]; exact hr
    have k1' : hkd h' r = 100 := by rw [F.2.1]; exact k1
    have l1' : hln h' r = 40 := by rw [F.2.2.1]; exact l1
    have w' : hI h' r i = nI (w i) := by rw [F.2.2.2.2.2 r (by omega)]; exact hw.2
    have ea := c_apart (d := d + 3) (h := h') hw.1 c1
    have ed := c_drumAt (d := d + 3) S' qd' hD (show k < D by omega)
    have a180 := apN_le hw.1 c1
    by_cases g : apN (w i) (dr k) ≤ f
    · obtain ⟨h1, a5', e1, F1, v1, o1⟩ := ih (k + 1) (setI h' 34 i (nI (mkM (nrB w dr f i) k) ||| nI (2 ^ k))) (vr (some p)) (by omega) (F.si rfl) (by
        rw [hI_eq, if_pos rfl, n_or, mkM, show nrB w dr f i k = true from decide_eq_true g, if_pos rfl])
      refine ⟨h1, a5', ?_, F1, v1, fun q hq => by rw [o1 q hq, hI_eq, if_neg hq]⟩
      rw [B_117_20 S']
      simp (decide := true) (disch := (first | assumption | (simp only [Sh_setI, Sm_setI, Sh_setL, Sm_setL]; assumption) | omega)) only [qd', n_le, show ¬ D ≤ k by omega, B_117_29 S', ed, c2', B_117_35, reduceCtorEq, B_117_42, K', hr', k1', l1', n_ix, n_cl, c3', w', c5', ea, B_117_56, n_lt, show ¬ f < apN (w i) (dr k) by omega, B_117_60 S', v, sh_1, B_117_73, n_addO, bI_True, bI_False, p_max, p_min, p_abs, Option.bind_some, Option.bind_none, Option.toList_some, Option.toList_none, List.cons_append, List.nil_append, bI_eq0, bI_ne0, bI_ne1, bI_eq1, bI_01, eq_self, true_or, or_true, and_true, true_and, false_and, and_false, false_or, or_false, ite_true, ite_false, if_true, if_false, not_true, not_false_iff, Classical.not_not, nem, ite_not, ne_eq]
      exact e1
    · obtain ⟨h1, a5', e1, F1, v1, o1⟩ := ih (k + 1) h' (vr (some p)) (by omega) F (by
        rw [v, mkM, show nrB w dr f i k = false from decide_eq_false g, if_neg (by decide), Nat.or_zero])
      refine ⟨h1, a5', ?_, F1, v1, o1⟩
      rw [B_117_20 S']
      simp (decide := true) (disch := (first | assumption | (simp only [Sh_setI, Sm_setI, Sh_setL, Sm_setL]; assumption) | omega)) only [qd', n_le, show ¬ D ≤ k by omega, B_117_29 S', ed, c2', B_117_35, reduceCtorEq, B_117_42, K', hr', k1', l1', n_ix, n_cl, c3', w', c5', ea, B_117_56, n_lt, show f < apN (w i) (dr k) by omega, B_117_73, n_addO, bI_True, bI_False, p_max, p_min, p_abs, Option.bind_some, Option.bind_none, Option.toList_some, Option.toList_none, List.cons_append, List.nil_append, bI_eq0, bI_ne0, bI_ne1, bI_eq1, bI_01, eq_self, true_or, or_true, and_true, true_and, false_and, and_false, false_or, or_false, ite_true, ite_false, if_true, if_false, not_true, not_false_iff, Classical.not_not, nem, ite_not, ne_eq]
      exact e1
theorem c_tell2 (S : Sh h) {n z D f : Nat} (hD : D ≤ 8) (qd : hI h 1 4 = nI D) {dr w : Nat → Nat} (hdr : ∀ k, k < D → dr k < 360 ∧ ∃ p, hR h 7 k = some p ∧ hkd h p = 8 ∧ 88 < p ∧ hI h p 1 = nI (dr k)) (K : hkd h n = 6) {r : Nat} (hr : hR h n 0 = some r) (k1 : hkd h r = 100) (l1 : hln h r = 40) (hn34 : n ≠ 34 ∧ r ≠ 34) (hz : z ≤ 40) (q1 : hI h n 2 = nI z) (hw : ∀ i, i < z → w i < 360 ∧ hI h r i = nI (w i)) (hf : f ≤ 180) : ∀ j k h' (a4 a5 : am_V), k + j = z → Fi (fun a => a = 34) h h' → (∀ q, q < k → hI h' 34 q = nI (mkM (nrB w dr f q) D)) → ∃ h1, Ev (d + 9) 117 2 [vr (some 1), vr (some n), vi (nI f), vi (nI k), a4, a5] [] h' = some (none, h1) ∧ Fi (fun a => a = 34) h h1 ∧ ∀ q, q < z → hI h1 34 q = nI (mkM (nrB w dr f q) D) := by
  intro j
  induction j with
  | zero =>
    intro k h' a4 a5 e F v
    have K' : hkd h' n = 6 := by rw [F.2.1]; exact K
    have q1' : hI h' n 2 = nI z := by rw [F.2.2.2.2.2 n (by omega)]; exact q1
    refine ⟨h', ?_, F, fun q hq => v q (by omega)⟩
    rw [B_117_2]
    simp (decide := true) (disch := (first | assumption | (simp only [Sh_setI, Sm_setI, Sh_setL, Sm_setL]; assumption) | omega)) only [K', q1', n_le, show z ≤ k by omega, B_117_85, bI_True, bI_False, p_max, p_min, p_abs, Option.bind_some, Option.bind_none, Option.toList_some, Option.toList_none, List.cons_append, List.nil_append, bI_eq0, bI_ne0, bI_ne1, bI_eq1, bI_01, eq_self, true_or, or_true, and_true, true_and, false_and, and_false, false_or, or_false, ite_true, ite_false, if_true, if_false, not_true, not_false_iff, Classical.not_not, nem, ite_not, ne_eq]
  | succ j ih =>
    intro k h' a4 a5 e F v
    have S' := F.sh S
    have K' : hkd h' n = 6 := by rw [F.2.1]; exact K
    have q1' : hI h' n 2 = nI z := by rw [F.2.2.2.2.2 n (by omega)]; exact q1
    obtain ⟨h1, a5', e1, F1, v1, o1⟩ := c_tell1 (d := d) S (n := n) (z := z) (i := k) hD qd hdr K hr k1 l1 hn34 (by omega) hz (hw k (by omega)) hf D 0 (setI h' 34 k 0) a5 (by omega) (F.si rfl) (by rw [hI_eq, if_pos rfl]; rfl)
    obtain ⟨h2, e2, F2, v2⟩ := ih (k + 1) h1 (vi (nI D)) a5' (by omega) F1 (fun q hq => by
      by_cases c : q = k
      · rw [c]; exact v1
      · rw [o1 q c, hI_eq, if_neg c]; exact v q (by omega))
    refine ⟨h2, ?_, F2, v2⟩
    rw [B_117_2]
    simp (decide := true) (disch := (first | assumption | (simp only [Sh_setI, Sm_setI, Sh_setL, Sm_setL]; assumption) | omega)) only [K', q1', n_le, show ¬ z ≤ k by omega, B_117_10 S', n_ix, n_cl, bI_True, bI_False, p_max, p_min, p_abs, Option.bind_some, Option.bind_none, Option.toList_some, Option.toList_none, List.cons_append, List.nil_append, bI_eq0, bI_ne0, bI_ne1, bI_eq1, bI_01, eq_self, true_or, or_true, and_true, true_and, false_and, and_false, false_or, or_false, ite_true, ite_false, if_true, if_false, not_true, not_false_iff, Classical.not_not, nem, ite_not, ne_eq]
    refine e1.trans ?_
    simp (decide := true) (disch := (first | assumption | (simp only [Sh_setI, Sm_setI, Sh_setL, Sm_setL]; assumption) | omega)) only [B_117_79, n_addO, bI_True, bI_False, p_max, p_min, p_abs, Option.bind_some, Option.bind_none, Option.toList_some, Option.toList_none, List.cons_append, List.nil_append, bI_eq0, bI_ne0, bI_ne1, bI_eq1, bI_01, eq_self, true_or, or_true, and_true, true_and, false_and, and_false, false_or, or_false, ite_true, ite_false, if_true, if_false, not_true, not_false_iff, Classical.not_not, nem, ite_not, ne_eq]
    exact e2
theorem c_hmn (S : Sh h) {z s D : Nat} {P : Nat → Nat → Bool} (hz : z ≤ 40) (hs' : s < 256) (hD : D ≤ 8) (q : ∀ i, i < z → hI h 34 i = nI (mkM (P i) D)) : ∀ j k a, k + j = z → a ≤ k → Ev (d + 6) 118 5 [vr (some 1), vi (nI z), vi (nI s), vi (nI a), vi (nI k)] [] h = some (some (vi (nI (cntN (fun i => anyB (P i) s D) j k a))), h) := by
  intro j
  induction j with
  | zero =>
    intro k a e _
    rw [B_118_5]
    simp (decide := true) (disch := (first | assumption | (simp only [Sh_setI, Sm_setI, Sh_setL, Sm_setL]; assumption) | omega)) only [n_le, show z ≤ k by omega, B_118_32, cntN, bI_True, bI_False, p_max, p_min, p_abs, Option.bind_some, Option.bind_none, Option.toList_some, Option.toList_none, List.cons_append, List.nil_append, bI_eq0, bI_ne0, bI_ne1, bI_eq1, bI_01, eq_self, true_or, or_true, and_true, true_and, false_and, and_false, false_or, or_false, ite_true, ite_false, if_true, if_false, not_true, not_false_iff, Classical.not_not, nem, ite_not, ne_eq]
  | succ j ih =>
    intro k a e ha
    have b1 : mkM (P k) D &&& s ≤ s := Nat.and_le_right
    rw [B_118_5]
    simp (decide := true) (disch := (first | assumption | (simp only [Sh_setI, Sm_setI, Sh_setL, Sm_setL]; assumption) | omega)) only [n_le, show ¬ z ≤ k by omega, B_118_11 S, n_ix, n_cl, q, n_and, n_eqO, mkM_any, bI_True, bI_False, p_max, p_min, p_abs, Option.bind_some, Option.bind_none, Option.toList_some, Option.toList_none, List.cons_append, List.nil_append, bI_eq0, bI_ne0, bI_ne1, bI_eq1, bI_01, eq_self, true_or, or_true, and_true, true_and, false_and, and_false, false_or, or_false, ite_true, ite_false, if_true, if_false, not_true, not_false_iff, Classical.not_not, nem, ite_not, ne_eq]
    by_cases g : anyB (P k) s D = true
    · simp (decide := true) (disch := (first | assumption | (simp only [Sh_setI, Sm_setI, Sh_setL, Sm_setL]; assumption) | omega)) only [g, B_118_23, B_118_26, n_addO, cntN, reduceCtorEq, bI_True, bI_False, p_max, p_min, p_abs, Option.bind_some, Option.bind_none, Option.toList_some, Option.toList_none, List.cons_append, List.nil_append, bI_eq0, bI_ne0, bI_ne1, bI_eq1, bI_01, eq_self, true_or, or_true, and_true, true_and, false_and, and_false, false_or, or_false, ite_true, ite_false, if_true, if_false, not_true, not_false_iff, Classical.not_not, nem, ite_not, ne_eq]
      exact ih (k + 1) (a + 1) (by omega) (by omega)
    · have g' : anyB (P k) s D = false := by
        cases hg : anyB (P k) s D
        · rfl
        · exact absurd hg g
      simp (decide := true) (disch := (first | assumption | (simp only [Sh_setI, Sm_setI, Sh_setL, Sm_setL]; assumption) | omega)) only [g', B_118_26, n_addO, cntN, reduceCtorEq, bI_True, bI_False, p_max, p_min, p_abs, Option.bind_some, Option.bind_none, Option.toList_some, Option.toList_none, List.cons_append, List.nil_append, bI_eq0, bI_ne0, bI_ne1, bI_eq1, bI_01, eq_self, true_or, or_true, and_true, true_and, false_and, and_false, false_or, or_false, ite_true, ite_false, if_true, if_false, not_true, not_false_iff, Classical.not_not, nem, ite_not, ne_eq]
      exact ih (k + 1) a (by omega) (by omega)
theorem m_near1 (T : Sm h) {s0 z s f D i : Nat} (hs0 : s0 < 4) (hs' : s < 256) (hD : D ≤ 8) (hf : f ≤ 180) (qd : hI h 56 4 = nI D) {dr w : Nat → Nat} (hdr : ∀ k, k < D → dr k < 360 ∧ hI h 59 k = nI (dr k)) (hi : i < z) (hz : z ≤ 40) (hw : w i < 360 ∧ hI h 84 (40 * s0 + i) = nI (w i)) {a4 : Int32} : ∀ j e, e + j = D → Ev (d + 9) 206 23 [vr (some 56), vi (nI s0), vi (nI s), vi (nI f), vi a4, vi (nI i), vi (bI (anyB (nrB w dr f i) s e = true)), vi (nI e)] [] h = Ev (d + 9) 206 86 [vr (some 56), vi (nI s0), vi (nI s), vi (nI f), vi a4, vi (nI i), vi (bI (anyB (nrB w dr f i) s D = true)), vi (nI D)] [] h := by
  intro j
  induction j with
  | zero =>
    intro e q
    have : e = D := by omega
    subst this
    rw [B_206_23 T]
    simp (decide := true) (disch := (first | assumption | (simp only [Sh_setI, Sm_setI, Sh_setL, Sm_setL]; assumption) | omega)) only [qd, n_le, Nat.le_refl, bI_True, bI_False, p_max, p_min, p_abs, Option.bind_some, Option.bind_none, Option.toList_some, Option.toList_none, List.cons_append, List.nil_append, bI_eq0, bI_ne0, bI_ne1, bI_eq1, bI_01, eq_self, true_or, or_true, and_true, true_and, false_and, and_false, false_or, or_false, ite_true, ite_false, if_true, if_false, not_true, not_false_iff, Classical.not_not, nem, ite_not, ne_eq]
  | succ j ih =>
    intro e q
    obtain ⟨c1, c2⟩ := hdr e (by omega)
    have a180 := apN_le c1 hw.1
    have ea := m_apart (d := d + 4) (h := h) c1 hw.1
    have nx := ih (e + 1) (by omega)
    rw [anyB] at nx
    rw [B_206_23 T]
    by_cases g : anyB (nrB w dr f i) s e = true
    · simp (decide := true) (disch := (first | assumption | (simp only [Sh_setI, Sm_setI, Sh_setL, Sm_setL]; assumption) | omega)) only [qd, n_le, show ¬ D ≤ e by omega, g, B_206_32, B_206_73, B_206_78, n_addO, bI_True, bI_False, p_max, p_min, p_abs, Option.bind_some, Option.bind_none, Option.toList_some, Option.toList_none, List.cons_append, List.nil_append, bI_eq0, bI_ne0, bI_ne1, bI_eq1, bI_01, eq_self, true_or, or_true, and_true, true_and, false_and, and_false, false_or, or_false, ite_true, ite_false, if_true, if_false, not_true, not_false_iff, Classical.not_not, nem, ite_not, ne_eq]
      simp (decide := true) (disch := (first | assumption | (simp only [Sh_setI, Sm_setI, Sh_setL, Sm_setL]; assumption) | omega)) only [g, Bool.true_or, bI_True, bI_False, p_max, p_min, p_abs, Option.bind_some, Option.bind_none, Option.toList_some, Option.toList_none, List.cons_append, List.nil_append, bI_eq0, bI_ne0, bI_ne1, bI_eq1, bI_01, eq_self, true_or, or_true, and_true, true_and, false_and, and_false, false_or, or_false, ite_true, ite_false, if_true, if_false, not_true, not_false_iff, Classical.not_not, nem, ite_not, ne_eq] at nx
      exact nx
    · have g' : anyB (nrB w dr f i) s e = false := by
        cases hg : anyB (nrB w dr f i) s e
        · rfl
        · exact absurd hg g
      rw [g', Bool.false_or] at nx
      by_cases b : s / 2 ^ e % 2 = 1
      · by_cases x : apN (dr e) (w i) ≤ f
        · simp (decide := true) (disch := (first | assumption | (simp only [Sh_setI, Sm_setI, Sh_setL, Sm_setL]; assumption) | omega)) only [qd, n_le, show ¬ D ≤ e by omega, g', reduceCtorEq, B_206_32, B_206_37, sh_b, b, n_eqO, B_206_47 T, n_ix, n_cl, n_Omul, n_add, c2, hw.2, ea, B_206_69, n_lt, show ¬ f < apN (dr e) (w i) by omega, B_206_73, B_206_78, n_addO, bI_True, bI_False, p_max, p_min, p_abs, Option.bind_some, Option.bind_none, Option.toList_some, Option.toList_none, List.cons_append, List.nil_append, bI_eq0, bI_ne0, bI_ne1, bI_eq1, bI_01, eq_self, true_or, or_true, and_true, true_and, false_and, and_false, false_or, or_false, ite_true, ite_false, if_true, if_false, not_true, not_false_iff, Classical.not_not, nem, ite_not, ne_eq]
          rw [show nrB w dr f i e = true from decide_eq_true (by rw [apN_comm]; exact x)] at nx
          simp (decide := true) (disch := (first | assumption | (simp only [Sh_setI, Sm_setI, Sh_setL, Sm_setL]; assumption) | omega)) only [b, decide_true, Bool.and_true, bI_True, bI_False, p_max, p_min, p_abs, Option.bind_some, Option.bind_none, Option.toList_some, Option.toList_none, List.cons_append, List.nil_append, bI_eq0, bI_ne0, bI_ne1, bI_eq1, bI_01, eq_self, true_or, or_true, and_true, true_and, false_and, and_false, false_or, or_false, ite_true, ite_false, if_true, if_false, not_true, not_false_iff, Classical.not_not, nem, ite_not, ne_eq] at nx
          exact nx
        · simp (decide := true) (disch := (first | assumption | (simp only [Sh_setI, Sm_setI, Sh_setL, Sm_setL]; assumption) | omega)) only [qd, n_le, show ¬ D ≤ e by omega, g', reduceCtorEq, B_206_32, B_206_37, sh_b, b, n_eqO, B_206_47 T, n_ix, n_cl, n_Omul, n_add, c2, hw.2, ea, B_206_69, n_lt, show f < apN (dr e) (w i) by omega, B_206_77, B_206_78, n_addO, bI_True, bI_False, p_max, p_min, p_abs, Option.bind_some, Option.bind_none, Option.toList_some, Option.toList_none, List.cons_append, List.nil_append, bI_eq0, bI_ne0, bI_ne1, bI_eq1, bI_01, eq_self, true_or, or_true, and_true, true_and, false_and, and_false, false_or, or_false, ite_true, ite_false, if_true, if_false, not_true, not_false_iff, Classical.not_not, nem, ite_not, ne_eq]
          rw [show nrB w dr f i e = false from decide_eq_false (by rw [apN_comm]; exact x)] at nx
          simp (decide := true) (disch := (first | assumption | (simp only [Sh_setI, Sm_setI, Sh_setL, Sm_setL]; assumption) | omega)) only [Bool.and_false, reduceCtorEq, bI_True, bI_False, p_max, p_min, p_abs, Option.bind_some, Option.bind_none, Option.toList_some, Option.toList_none, List.cons_append, List.nil_append, bI_eq0, bI_ne0, bI_ne1, bI_eq1, bI_01, eq_self, true_or, or_true, and_true, true_and, false_and, and_false, false_or, or_false, ite_true, ite_false, if_true, if_false, not_true, not_false_iff, Classical.not_not, nem, ite_not, ne_eq] at nx
          exact nx
      · have b0 : s / 2 ^ e % 2 = 0 := by omega
        simp (decide := true) (disch := (first | assumption | (simp only [Sh_setI, Sm_setI, Sh_setL, Sm_setL]; assumption) | omega)) only [qd, n_le, show ¬ D ≤ e by omega, g', reduceCtorEq, B_206_32, B_206_37, sh_b, b0, n_eqO, B_206_77, B_206_78, n_addO, bI_True, bI_False, p_max, p_min, p_abs, Option.bind_some, Option.bind_none, Option.toList_some, Option.toList_none, List.cons_append, List.nil_append, bI_eq0, bI_ne0, bI_ne1, bI_eq1, bI_01, eq_self, true_or, or_true, and_true, true_and, false_and, and_false, false_or, or_false, ite_true, ite_false, if_true, if_false, not_true, not_false_iff, Classical.not_not, nem, ite_not, ne_eq]
        simp (decide := true) (disch := (first | assumption | (simp only [Sh_setI, Sm_setI, Sh_setL, Sm_setL]; assumption) | omega)) only [b0, decide_false, Bool.false_and, reduceCtorEq, bI_True, bI_False, p_max, p_min, p_abs, Option.bind_some, Option.bind_none, Option.toList_some, Option.toList_none, List.cons_append, List.nil_append, bI_eq0, bI_ne0, bI_ne1, bI_eq1, bI_01, eq_self, true_or, or_true, and_true, true_and, false_and, and_false, false_or, or_false, ite_true, ite_false, if_true, if_false, not_true, not_false_iff, Classical.not_not, nem, ite_not, ne_eq] at nx
        exact nx
theorem m_near2 (T : Sm h) {s0 z s f D : Nat} (hs0 : s0 < 4) (hs' : s < 256) (hD : D ≤ 8) (hf : f ≤ 180) (qd : hI h 56 4 = nI D) {dr w : Nat → Nat} (hdr : ∀ k, k < D → dr k < 360 ∧ hI h 59 k = nI (dr k)) (hz : z ≤ 40) (q1 : hI h 83 s0 = nI z) (hw : ∀ i, i < z → w i < 360 ∧ hI h 84 (40 * s0 + i) = nI (w i)) : ∀ j k a (a6 a7 : am_V), k + j = z → a ≤ k → Ev (d + 9) 206 6 [vr (some 56), vi (nI s0), vi (nI s), vi (nI f), vi (nI a), vi (nI k), a6, a7] [] h = some (some (vi (nI (cntN (fun i => anyB (nrB w dr f i) s D) j k a))), h) := by
  intro j
  induction j with
  | zero =>
    intro k a a6 a7 e _
    rw [B_206_6 T]
    simp (decide := true) (disch := (first | assumption | (simp only [Sh_setI, Sm_setI, Sh_setL, Sm_setL]; assumption) | omega)) only [n_ix, n_cl, q1, n_le, show z ≤ k by omega, B_206_107, cntN, bI_True, bI_False, p_max, p_min, p_abs, Option.bind_some, Option.bind_none, Option.toList_some, Option.toList_none, List.cons_append, List.nil_append, bI_eq0, bI_ne0, bI_ne1, bI_eq1, bI_01, eq_self, true_or, or_true, and_true, true_and, false_and, and_false, false_or, or_false, ite_true, ite_false, if_true, if_false, not_true, not_false_iff, Classical.not_not, nem, ite_not, ne_eq]
  | succ j ih =>
    intro k a a6 a7 e ha
    have n1 := m_near1 (d := d) T (a4 := nI a) hs0 hs' hD hf qd hdr (show k < z by omega) hz (hw k (by omega)) D 0 (by omega)
    rw [B_206_6 T]
    simp (decide := true) (disch := (first | assumption | (simp only [Sh_setI, Sm_setI, Sh_setL, Sm_setL]; assumption) | omega)) only [n_ix, n_cl, q1, n_le, show ¬ z ≤ k by omega, B_206_17, bI_True, bI_False, p_max, p_min, p_abs, Option.bind_some, Option.bind_none, Option.toList_some, Option.toList_none, List.cons_append, List.nil_append, bI_eq0, bI_ne0, bI_ne1, bI_eq1, bI_01, eq_self, true_or, or_true, and_true, true_and, false_and, and_false, false_or, or_false, ite_true, ite_false, if_true, if_false, not_true, not_false_iff, Classical.not_not, nem, ite_not, ne_eq]
    refine n1.trans ?_
    by_cases g : anyB (nrB w dr f k) s D = true
    · simp (decide := true) (disch := (first | assumption | (simp only [Sh_setI, Sm_setI, Sh_setL, Sm_setL]; assumption) | omega)) only [g, B_206_86, B_206_93, B_206_98, n_addO, cntN, bI_True, bI_False, p_max, p_min, p_abs, Option.bind_some, Option.bind_none, Option.toList_some, Option.toList_none, List.cons_append, List.nil_append, bI_eq0, bI_ne0, bI_ne1, bI_eq1, bI_01, eq_self, true_or, or_true, and_true, true_and, false_and, and_false, false_or, or_false, ite_true, ite_false, if_true, if_false, not_true, not_false_iff, Classical.not_not, nem, ite_not, ne_eq]
      exact ih (k + 1) (a + 1) _ _ (by omega) (by omega)
    · have g' : anyB (nrB w dr f k) s D = false := by
        cases hg : anyB (nrB w dr f k) s D
        · rfl
        · exact absurd hg g
      simp (decide := true) (disch := (first | assumption | (simp only [Sh_setI, Sm_setI, Sh_setL, Sm_setL]; assumption) | omega)) only [g', B_206_86, B_206_97, B_206_98, n_addO, Nat.add_zero, cntN, reduceCtorEq, bI_True, bI_False, p_max, p_min, p_abs, Option.bind_some, Option.bind_none, Option.toList_some, Option.toList_none, List.cons_append, List.nil_append, bI_eq0, bI_ne0, bI_ne1, bI_eq1, bI_01, eq_self, true_or, or_true, and_true, true_and, false_and, and_false, false_or, or_false, ite_true, ite_false, if_true, if_false, not_true, not_false_iff, Classical.not_not, nem, ite_not, ne_eq]
      exact ih (k + 1) a _ _ (by omega) (by omega)
end WATCH2
