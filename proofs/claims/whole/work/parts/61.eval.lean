/-! what a text comes to: the class -/
def joinF (b : Nat) (x y : Int32) : Int32 := match b with
  | 0 => bI (x ≠ 0 ∨ y ≠ 0)
  | 1 => bI (x ≠ 0 ∧ y ≠ 0)
  | 2 => bI (x < y)
  | 3 => bI (x = y)
  | 4 => x + y
  | 5 => x - y
  | _ => x * y
abbrev am_F : Type := Nat → Int32
def ups (f : am_F) (k : Nat) (v : Int32) : am_F := fun j => if j = k then v else f j
theorem ups_s {f : am_F} {k j : Nat} {v : Int32} : ups f k v j = if j = k then v else f j := rfl
def evO (F : am_F) (o : tOp) (n : Nat) (f : am_F) : am_F := match o with
  | .inl v => ups f n (nI v)
  | .inr (.inl x) => ups f n (F x)
  | .inr (.inr (.inl true)) => ups f (n - 1) (bI (f (n - 1) = 0))
  | .inr (.inr (.inl false)) => ups f (n - 1) (-f (n - 1))
  | .inr (.inr (.inr b)) => ups f (n - 2) (joinF b (f (n - 2)) (f (n - 1)))
def evL (F : am_F) : List tOp → Nat → am_F → am_F
  | [], _, f => f
  | o :: os, n, f => evL F os ((depO n o).getD 0) (evO F o n f)
theorem depO_le {n n' : Nat} {o : tOp} (e : depO n o = some n') : n' ≤ n + 1 := by
  match o with
  | .inl v => cases e; exact Nat.le_refl _
  | .inr (.inl x) => cases e; exact Nat.le_refl _
  | .inr (.inr (.inl b)) =>
    simp only [depO] at e
    split at e
    · cases e; omega
    · exact absurd e (by simp)
  | .inr (.inr (.inr b)) =>
    simp only [depO] at e
    split at e
    · cases e; omega
    · exact absurd e (by simp)
theorem evO_cg {F : am_F} {o : tOp} {n n' : Nat} {f g : am_F} (e : depO n o = some n') (q : ∀ j, j < n → f j = g j) : ∀ j, j < n' → evO F o n f j = evO F o n g j := by
  match o with
  | .inl v =>
    cases e
    intro j hj
    simp only [evO, ups]
    by_cases c : j = n
    · rw [if_pos c, if_pos c]
    · rw [if_neg c, if_neg c, q j (by omega)]
  | .inr (.inl x) =>
    cases e
    intro j hj
    simp only [evO, ups]
    by_cases c : j = n
    · rw [if_pos c, if_pos c]
    · rw [if_neg c, if_neg c, q j (by omega)]
  | .inr (.inr (.inl b)) =>
    simp only [depO] at e
    split at e
    · cases e
      intro j hj
      cases b
      · simp only [evO, ups]
        rw [q (n - 1) (by omega), q j (by omega)]
      · simp only [evO, ups]
        rw [q (n - 1) (by omega), q j (by omega)]
    · exact absurd e (by simp)
  | .inr (.inr (.inr b)) =>
    simp only [depO] at e
    split at e
    · cases e
      intro j hj
      simp only [evO, ups]
      rw [q (n - 1) (by omega), q (n - 2) (by omega), q j (by omega)]
    · exact absurd e (by simp)
theorem depL_cons {o : tOp} {os : List tOp} {n m : Nat} (e : depL (o :: os) n = some m) : ∃ n', depO n o = some n' ∧ depL os n' = some m := by
  simp only [depL] at e
  cases h : depO n o with
  | none => rw [h] at e; exact absurd e (by simp)
  | some n' => rw [h] at e; exact ⟨n', rfl, e⟩
theorem evL_cg {F : am_F} : ∀ (os : List tOp) (n m : Nat) (f g : am_F), depL os n = some m → (∀ j, j < n → f j = g j) → ∀ j, j < m → evL F os n f j = evL F os n g j := by
  intro os
  induction os with
  | nil =>
    intro n m f g e q
    cases e
    exact q
  | cons o os ih =>
    intro n m f g e q
    obtain ⟨n', e1, e2⟩ := depL_cons e
    simp only [evL]
    rw [e1]
    exact ih n' m _ _ e2 (evO_cg e1 q)
/-- only the facts, and a text's stack and its height -/
def Ft (n0 : Nat) (h h' : am_H) : Prop := h'.1 = h.1 ∧ hkd h' = hkd h ∧ hln h' = hln h ∧ hR h' = hR h ∧ hL h' = hL h ∧ ∀ a j, a ≠ 18 → a ≠ n0 + 2 → (a = n0 → j ≠ 3) → hI h' a j = hI h a j
theorem Ft.rf {n0 : Nat} {h : am_H} : Ft n0 h h := ⟨rfl, rfl, rfl, rfl, rfl, fun _ _ _ _ _ => rfl⟩
theorem Ft.tr {n0 : Nat} {h h' h'' : am_H} (F : Ft n0 h h') (G : Ft n0 h' h'') : Ft n0 h h'' := ⟨G.1.trans F.1, G.2.1.trans F.2.1, G.2.2.1.trans F.2.2.1, G.2.2.2.1.trans F.2.2.2.1, G.2.2.2.2.1.trans F.2.2.2.2.1, fun a j q1 q2 q3 => (G.2.2.2.2.2 a j q1 q2 q3).trans (F.2.2.2.2.2 a j q1 q2 q3)⟩
theorem Ft.si {n0 : Nat} {h h' : am_H} (F : Ft n0 h h') {n i : Nat} {v : Int32} (q : n = 18 ∨ n = n0 + 2 ∨ (n = n0 ∧ i = 3)) : Ft n0 h (setI h' n i v) := ⟨F.1, F.2.1, F.2.2.1, F.2.2.2.1, F.2.2.2.2.1, fun a j q1 q2 q3 => by
  show (if _ then _ else _) = _
  rw [if_neg (fun w => by have := q3; omega)]
  exact F.2.2.2.2.2 a j q1 q2 q3⟩
theorem Ft.sh {n0 : Nat} {h h' : am_H} (F : Ft n0 h h') (S : Sh h) : Sh h' := ⟨by rw [hk, F.1]; exact S.1, fun n q => by rw [F.2.1, F.2.2.1]; exact S.2.1 n q, fun n f q => by rw [F.2.2.2.1]; exact S.2.2 n f q⟩
/-- a text's cells, and how high its stack is -/
def Tx (n0 len n : Nat) (h : am_H) : Prop := hkd h n0 = 7 ∧ hR h n0 1 = some (n0 + 2) ∧ hkd h (n0 + 2) = 100 ∧ hln h (n0 + 2) = len ∧ hI h n0 3 = nI n
section EVAL
variable {d : Nat} {h : am_H}
theorem c_push {n0 len n : Nat} (X : Tx n0 len n h) (hl : len ≤ 160) (hn : n < len) {v : Int32} : Cl (d + 4) 88 [vr (some n0), vi v] h = some (none, setI (setI h n0 3 (nI (n + 1))) (n0 + 2) n v) := by
  obtain ⟨K, r1, k2, l2, t3⟩ := X
  simp (decide := true) (disch := (first | assumption | (simp only [Sh_setI, Sm_setI, Sh_setL, Sm_setL]; assumption) | omega)) only [E_88, B_88_0, B_88_12, B_88_29, r1, k2, l2, t3, n_le, show ¬ len ≤ n by omega, xkd_setI, xln_setI, n_ix, n_cl, n_addO, bI_True, bI_False, p_max, p_min, p_abs, Option.bind_some, Option.bind_none, Option.toList_some, Option.toList_none, List.cons_append, List.nil_append, bI_eq0, bI_ne0, bI_ne1, bI_eq1, bI_01, eq_self, true_or, or_true, and_true, true_and, false_and, and_false, false_or, or_false, ite_true, ite_false, if_true, if_false, not_true, not_false_iff, Classical.not_not, nem, ite_not, ne_eq]
theorem c_turn {n0 len n : Nat} (X : Tx n0 len n h) (hl : len ≤ 160) (hn : n ≤ len) (h1 : 1 ≤ n) (b : Bool) : Cl (d + 5) 89 [vr (some n0), vi (encC (.inr (.inr (.inl b))))] h = some (none, setI h (n0 + 2) (n - 1) (if b = true then bI (hI h (n0 + 2) (n - 1) = 0) else -hI h (n0 + 2) (n - 1))) := by
  obtain ⟨K, r1, k2, l2, t3⟩ := X
  cases b
  · simp (decide := true) (disch := (first | assumption | (simp only [Sh_setI, Sm_setI, Sh_setL, Sm_setL]; assumption) | omega)) only [encC, E_89, B_89_0, B_89_8, B_89_36, B_89_41, B_89_45, B_89_49, B_89_50, B_89_53, B_89_54, r1, k2, l2, t3, n_ltO, show ¬ n < 1 by omega, n_subO, n_ix, n_cl, reduceCtorEq, bI_True, bI_False, p_max, p_min, p_abs, Option.bind_some, Option.bind_none, Option.toList_some, Option.toList_none, List.cons_append, List.nil_append, bI_eq0, bI_ne0, bI_ne1, bI_eq1, bI_01, eq_self, true_or, or_true, and_true, true_and, false_and, and_false, false_or, or_false, ite_true, ite_false, if_true, if_false, not_true, not_false_iff, Classical.not_not, nem, ite_not, ne_eq]
  · simp (decide := true) (disch := (first | assumption | (simp only [Sh_setI, Sm_setI, Sh_setL, Sm_setL]; assumption) | omega)) only [encC, E_89, B_89_0, B_89_8, B_89_36, B_89_41, B_89_45, B_89_49, B_89_50, B_89_53, B_89_54, r1, k2, l2, t3, n_ltO, show ¬ n < 1 by omega, n_subO, n_ix, n_cl, mg_ev, bI_True, bI_False, p_max, p_min, p_abs, Option.bind_some, Option.bind_none, Option.toList_some, Option.toList_none, List.cons_append, List.nil_append, bI_eq0, bI_ne0, bI_ne1, bI_eq1, bI_01, eq_self, true_or, or_true, and_true, true_and, false_and, and_false, false_or, or_false, ite_true, ite_false, if_true, if_false, not_true, not_false_iff, Classical.not_not, nem, ite_not, ne_eq]
    by_cases c : hI h (n0 + 2) (n - 1) = 0
    · simp (decide := true) (disch := (first | assumption | (simp only [Sh_setI, Sm_setI, Sh_setL, Sm_setL]; assumption) | omega)) only [c, E_90, B_90_0, B_90_4, B_90_8, B_90_9, B_89_45, B_89_49, B_89_50, B_89_53, B_89_54, k2, l2, n_ix, n_cl, bI_True, bI_False, p_max, p_min, p_abs, Option.bind_some, Option.bind_none, Option.toList_some, Option.toList_none, List.cons_append, List.nil_append, bI_eq0, bI_ne0, bI_ne1, bI_eq1, bI_01, eq_self, true_or, or_true, and_true, true_and, false_and, and_false, false_or, or_false, ite_true, ite_false, if_true, if_false, not_true, not_false_iff, Classical.not_not, nem, ite_not, ne_eq]
    · simp (decide := true) (disch := (first | assumption | (simp only [Sh_setI, Sm_setI, Sh_setL, Sm_setL]; assumption) | omega)) only [c, E_90, B_90_0, B_90_4, B_90_8, B_90_9, B_89_45, B_89_49, B_89_50, B_89_53, B_89_54, k2, l2, n_ix, n_cl, bI_True, bI_False, p_max, p_min, p_abs, Option.bind_some, Option.bind_none, Option.toList_some, Option.toList_none, List.cons_append, List.nil_append, bI_eq0, bI_ne0, bI_ne1, bI_eq1, bI_01, eq_self, true_or, or_true, and_true, true_and, false_and, and_false, false_or, or_false, ite_true, ite_false, if_true, if_false, not_true, not_false_iff, Classical.not_not, nem, ite_not, ne_eq]
theorem c_join (b : Nat) (hb : b < 7) {x y : Int32} : Cl (d + 5) 91 [vi (-encC (.inr (.inr (.inr b)))), vi x, vi y] h = some (some (vi (joinF b x y)), h) := by
  match b, hb with
  | 0, _ =>
    by_cases a : x = 0
    · by_cases c : y = 0
      · simp (decide := true) (disch := (first | assumption | (simp only [Sh_setI, Sm_setI, Sh_setL, Sm_setL]; assumption) | omega)) only [encC, joinF, E_91, B_91_0, B_91_60, B_91_64, B_91_68, B_91_72, B_91_73, B_91_76, B_91_77, B_91_81, B_91_85, B_91_89, B_91_90, B_91_93, B_91_94, B_91_99, B_91_103, B_91_104, B_91_107, B_91_108, B_91_113, B_91_117, B_91_118, B_91_121, B_91_122, B_91_126, B_91_130, am_swE, E_90, B_90_0, B_90_4, B_90_8, B_90_9, a, c, Int32.neg_neg, bI_True, bI_False, p_max, p_min, p_abs, Option.bind_some, Option.bind_none, Option.toList_some, Option.toList_none, List.cons_append, List.nil_append, bI_eq0, bI_ne0, bI_ne1, bI_eq1, bI_01, eq_self, true_or, or_true, and_true, true_and, false_and, and_false, false_or, or_false, ite_true, ite_false, if_true, if_false, not_true, not_false_iff, Classical.not_not, nem, ite_not, ne_eq]
      · simp (decide := true) (disch := (first | assumption | (simp only [Sh_setI, Sm_setI, Sh_setL, Sm_setL]; assumption) | omega)) only [encC, joinF, E_91, B_91_0, B_91_60, B_91_64, B_91_68, B_91_72, B_91_73, B_91_76, B_91_77, B_91_81, B_91_85, B_91_89, B_91_90, B_91_93, B_91_94, B_91_99, B_91_103, B_91_104, B_91_107, B_91_108, B_91_113, B_91_117, B_91_118, B_91_121, B_91_122, B_91_126, B_91_130, am_swE, E_90, B_90_0, B_90_4, B_90_8, B_90_9, a, c, Int32.neg_neg, bI_True, bI_False, p_max, p_min, p_abs, Option.bind_some, Option.bind_none, Option.toList_some, Option.toList_none, List.cons_append, List.nil_append, bI_eq0, bI_ne0, bI_ne1, bI_eq1, bI_01, eq_self, true_or, or_true, and_true, true_and, false_and, and_false, false_or, or_false, ite_true, ite_false, if_true, if_false, not_true, not_false_iff, Classical.not_not, nem, ite_not, ne_eq]
    · simp (decide := true) (disch := (first | assumption | (simp only [Sh_setI, Sm_setI, Sh_setL, Sm_setL]; assumption) | omega)) only [encC, joinF, E_91, B_91_0, B_91_60, B_91_64, B_91_68, B_91_72, B_91_73, B_91_76, B_91_77, B_91_81, B_91_85, B_91_89, B_91_90, B_91_93, B_91_94, B_91_99, B_91_103, B_91_104, B_91_107, B_91_108, B_91_113, B_91_117, B_91_118, B_91_121, B_91_122, B_91_126, B_91_130, am_swE, E_90, B_90_0, B_90_4, B_90_8, B_90_9, a, Int32.neg_neg, bI_True, bI_False, p_max, p_min, p_abs, Option.bind_some, Option.bind_none, Option.toList_some, Option.toList_none, List.cons_append, List.nil_append, bI_eq0, bI_ne0, bI_ne1, bI_eq1, bI_01, eq_self, true_or, or_true, and_true, true_and, false_and, and_false, false_or, or_false, ite_true, ite_false, if_true, if_false, not_true, not_false_iff, Classical.not_not, nem, ite_not, ne_eq]
  | 1, _ =>
    by_cases a : x = 0
    · simp (decide := true) (disch := (first | assumption | (simp only [Sh_setI, Sm_setI, Sh_setL, Sm_setL]; assumption) | omega)) only [encC, joinF, E_91, B_91_0, B_91_60, B_91_64, B_91_68, B_91_72, B_91_73, B_91_76, B_91_77, B_91_81, B_91_85, B_91_89, B_91_90, B_91_93, B_91_94, B_91_99, B_91_103, B_91_104, B_91_107, B_91_108, B_91_113, B_91_117, B_91_118, B_91_121, B_91_122, B_91_126, B_91_130, am_swE, E_90, B_90_0, B_90_4, B_90_8, B_90_9, a, Int32.neg_neg, bI_True, bI_False, p_max, p_min, p_abs, Option.bind_some, Option.bind_none, Option.toList_some, Option.toList_none, List.cons_append, List.nil_append, bI_eq0, bI_ne0, bI_ne1, bI_eq1, bI_01, eq_self, true_or, or_true, and_true, true_and, false_and, and_false, false_or, or_false, ite_true, ite_false, if_true, if_false, not_true, not_false_iff, Classical.not_not, nem, ite_not, ne_eq]
    · by_cases c : y = 0
      · simp (decide := true) (disch := (first | assumption | (simp only [Sh_setI, Sm_setI, Sh_setL, Sm_setL]; assumption) | omega)) only [encC, joinF, E_91, B_91_0, B_91_60, B_91_64, B_91_68, B_91_72, B_91_73, B_91_76, B_91_77, B_91_81, B_91_85, B_91_89, B_91_90, B_91_93, B_91_94, B_91_99, B_91_103, B_91_104, B_91_107, B_91_108, B_91_113, B_91_117, B_91_118, B_91_121, B_91_122, B_91_126, B_91_130, am_swE, E_90, B_90_0, B_90_4, B_90_8, B_90_9, a, c, Int32.neg_neg, bI_True, bI_False, p_max, p_min, p_abs, Option.bind_some, Option.bind_none, Option.toList_some, Option.toList_none, List.cons_append, List.nil_append, bI_eq0, bI_ne0, bI_ne1, bI_eq1, bI_01, eq_self, true_or, or_true, and_true, true_and, false_and, and_false, false_or, or_false, ite_true, ite_false, if_true, if_false, not_true, not_false_iff, Classical.not_not, nem, ite_not, ne_eq]
      · simp (decide := true) (disch := (first | assumption | (simp only [Sh_setI, Sm_setI, Sh_setL, Sm_setL]; assumption) | omega)) only [encC, joinF, E_91, B_91_0, B_91_60, B_91_64, B_91_68, B_91_72, B_91_73, B_91_76, B_91_77, B_91_81, B_91_85, B_91_89, B_91_90, B_91_93, B_91_94, B_91_99, B_91_103, B_91_104, B_91_107, B_91_108, B_91_113, B_91_117, B_91_118, B_91_121, B_91_122, B_91_126, B_91_130, am_swE, E_90, B_90_0, B_90_4, B_90_8, B_90_9, a, c, Int32.neg_neg, bI_True, bI_False, p_max, p_min, p_abs, Option.bind_some, Option.bind_none, Option.toList_some, Option.toList_none, List.cons_append, List.nil_append, bI_eq0, bI_ne0, bI_ne1, bI_eq1, bI_01, eq_self, true_or, or_true, and_true, true_and, false_and, and_false, false_or, or_false, ite_true, ite_false, if_true, if_false, not_true, not_false_iff, Classical.not_not, nem, ite_not, ne_eq]
  | 2, _ =>
    by_cases a : y ≤ x
    · have a' : ¬ x < y := by rw [nt_le]; exact a
      simp (decide := true) (disch := (first | assumption | (simp only [Sh_setI, Sm_setI, Sh_setL, Sm_setL]; assumption) | omega)) only [encC, joinF, E_91, B_91_0, B_91_60, B_91_64, B_91_68, B_91_72, B_91_73, B_91_76, B_91_77, B_91_81, B_91_85, B_91_89, B_91_90, B_91_93, B_91_94, B_91_99, B_91_103, B_91_104, B_91_107, B_91_108, B_91_113, B_91_117, B_91_118, B_91_121, B_91_122, B_91_126, B_91_130, am_swE, E_90, B_90_0, B_90_4, B_90_8, B_90_9, a, a', Int32.neg_neg, bI_True, bI_False, p_max, p_min, p_abs, Option.bind_some, Option.bind_none, Option.toList_some, Option.toList_none, List.cons_append, List.nil_append, bI_eq0, bI_ne0, bI_ne1, bI_eq1, bI_01, eq_self, true_or, or_true, and_true, true_and, false_and, and_false, false_or, or_false, ite_true, ite_false, if_true, if_false, not_true, not_false_iff, Classical.not_not, nem, ite_not, ne_eq]
    · have a' : x < y := by rw [← nt_lt]; exact a
      simp (decide := true) (disch := (first | assumption | (simp only [Sh_setI, Sm_setI, Sh_setL, Sm_setL]; assumption) | omega)) only [encC, joinF, E_91, B_91_0, B_91_60, B_91_64, B_91_68, B_91_72, B_91_73, B_91_76, B_91_77, B_91_81, B_91_85, B_91_89, B_91_90, B_91_93, B_91_94, B_91_99, B_91_103, B_91_104, B_91_107, B_91_108, B_91_113, B_91_117, B_91_118, B_91_121, B_91_122, B_91_126, B_91_130, am_swE, E_90, B_90_0, B_90_4, B_90_8, B_90_9, a, a', Int32.neg_neg, bI_True, bI_False, p_max, p_min, p_abs, Option.bind_some, Option.bind_none, Option.toList_some, Option.toList_none, List.cons_append, List.nil_append, bI_eq0, bI_ne0, bI_ne1, bI_eq1, bI_01, eq_self, true_or, or_true, and_true, true_and, false_and, and_false, false_or, or_false, ite_true, ite_false, if_true, if_false, not_true, not_false_iff, Classical.not_not, nem, ite_not, ne_eq]
  | 3, _ =>
    by_cases a : x = y
    · simp (decide := true) (disch := (first | assumption | (simp only [Sh_setI, Sm_setI, Sh_setL, Sm_setL]; assumption) | omega)) only [encC, joinF, E_91, B_91_0, B_91_60, B_91_64, B_91_68, B_91_72, B_91_73, B_91_76, B_91_77, B_91_81, B_91_85, B_91_89, B_91_90, B_91_93, B_91_94, B_91_99, B_91_103, B_91_104, B_91_107, B_91_108, B_91_113, B_91_117, B_91_118, B_91_121, B_91_122, B_91_126, B_91_130, am_swE, E_90, B_90_0, B_90_4, B_90_8, B_90_9, a, Int32.neg_neg, bI_True, bI_False, p_max, p_min, p_abs, Option.bind_some, Option.bind_none, Option.toList_some, Option.toList_none, List.cons_append, List.nil_append, bI_eq0, bI_ne0, bI_ne1, bI_eq1, bI_01, eq_self, true_or, or_true, and_true, true_and, false_and, and_false, false_or, or_false, ite_true, ite_false, if_true, if_false, not_true, not_false_iff, Classical.not_not, nem, ite_not, ne_eq]
    · simp (decide := true) (disch := (first | assumption | (simp only [Sh_setI, Sm_setI, Sh_setL, Sm_setL]; assumption) | omega)) only [encC, joinF, E_91, B_91_0, B_91_60, B_91_64, B_91_68, B_91_72, B_91_73, B_91_76, B_91_77, B_91_81, B_91_85, B_91_89, B_91_90, B_91_93, B_91_94, B_91_99, B_91_103, B_91_104, B_91_107, B_91_108, B_91_113, B_91_117, B_91_118, B_91_121, B_91_122, B_91_126, B_91_130, am_swE, E_90, B_90_0, B_90_4, B_90_8, B_90_9, a, Int32.neg_neg, bI_True, bI_False, p_max, p_min, p_abs, Option.bind_some, Option.bind_none, Option.toList_some, Option.toList_none, List.cons_append, List.nil_append, bI_eq0, bI_ne0, bI_ne1, bI_eq1, bI_01, eq_self, true_or, or_true, and_true, true_and, false_and, and_false, false_or, or_false, ite_true, ite_false, if_true, if_false, not_true, not_false_iff, Classical.not_not, nem, ite_not, ne_eq]
  | 4, _ => simp (decide := true) (disch := (first | assumption | (simp only [Sh_setI, Sm_setI, Sh_setL, Sm_setL]; assumption) | omega)) only [encC, joinF, E_91, B_91_0, B_91_60, B_91_64, B_91_68, B_91_72, B_91_73, B_91_76, B_91_77, B_91_81, B_91_85, B_91_89, B_91_90, B_91_93, B_91_94, B_91_99, B_91_103, B_91_104, B_91_107, B_91_108, B_91_113, B_91_117, B_91_118, B_91_121, B_91_122, B_91_126, B_91_130, am_swE, E_90, B_90_0, B_90_4, B_90_8, B_90_9, Int32.neg_neg, bI_True, bI_False, p_max, p_min, p_abs, Option.bind_some, Option.bind_none, Option.toList_some, Option.toList_none, List.cons_append, List.nil_append, bI_eq0, bI_ne0, bI_ne1, bI_eq1, bI_01, eq_self, true_or, or_true, and_true, true_and, false_and, and_false, false_or, or_false, ite_true, ite_false, if_true, if_false, not_true, not_false_iff, Classical.not_not, nem, ite_not, ne_eq]
  | 5, _ => simp (decide := true) (disch := (first | assumption | (simp only [Sh_setI, Sm_setI, Sh_setL, Sm_setL]; assumption) | omega)) only [encC, joinF, E_91, B_91_0, B_91_60, B_91_64, B_91_68, B_91_72, B_91_73, B_91_76, B_91_77, B_91_81, B_91_85, B_91_89, B_91_90, B_91_93, B_91_94, B_91_99, B_91_103, B_91_104, B_91_107, B_91_108, B_91_113, B_91_117, B_91_118, B_91_121, B_91_122, B_91_126, B_91_130, am_swE, E_90, B_90_0, B_90_4, B_90_8, B_90_9, Int32.neg_neg, bI_True, bI_False, p_max, p_min, p_abs, Option.bind_some, Option.bind_none, Option.toList_some, Option.toList_none, List.cons_append, List.nil_append, bI_eq0, bI_ne0, bI_ne1, bI_eq1, bI_01, eq_self, true_or, or_true, and_true, true_and, false_and, and_false, false_or, or_false, ite_true, ite_false, if_true, if_false, not_true, not_false_iff, Classical.not_not, nem, ite_not, ne_eq]
  | 6, _ => simp (decide := true) (disch := (first | assumption | (simp only [Sh_setI, Sm_setI, Sh_setL, Sm_setL]; assumption) | omega)) only [encC, joinF, E_91, B_91_0, B_91_60, B_91_64, B_91_68, B_91_72, B_91_73, B_91_76, B_91_77, B_91_81, B_91_85, B_91_89, B_91_90, B_91_93, B_91_94, B_91_99, B_91_103, B_91_104, B_91_107, B_91_108, B_91_113, B_91_117, B_91_118, B_91_121, B_91_122, B_91_126, B_91_130, am_swE, E_90, B_90_0, B_90_4, B_90_8, B_90_9, Int32.neg_neg, bI_True, bI_False, p_max, p_min, p_abs, Option.bind_some, Option.bind_none, Option.toList_some, Option.toList_none, List.cons_append, List.nil_append, bI_eq0, bI_ne0, bI_ne1, bI_eq1, bI_01, eq_self, true_or, or_true, and_true, true_and, false_and, and_false, false_or, or_false, ite_true, ite_false, if_true, if_false, not_true, not_false_iff, Classical.not_not, nem, ite_not, ne_eq]
theorem ups_h {h : am_H} {a i : Nat} {v : Int32} : hI (setI h a i v) a = ups (hI h a) i v := funext fun j => hI_eq
theorem c_step (S : Sh h) {n0 len n n' : Nat} {o : tOp} (X : Tx n0 len n h) (h18 : n0 = 53 ∨ 88 < n0) (hl : len ≤ 160) (hn : n < len) (ok : okOp o) (dp : depO n o = some n') : ∃ h1, Cl (d + 9) 87 [vr (some n0), vi (encC o), vr (some 18)] h = some (none, h1) ∧ Ft n0 h h1 ∧ hI h1 18 = hI h 18 ∧ Tx n0 len n' h1 ∧ hI h1 (n0 + 2) = evO (hI h 18) o n (hI h (n0 + 2)) := by
  have X' := X
  obtain ⟨K, r1, k2, l2, t3⟩ := X
  match o with
  | .inl v =>
    cases dp
    have hv : v ≤ 9999 := ok
    refine ⟨setI (setI h n0 3 (nI (n + 1))) (n0 + 2) n (nI v), ?_, (Ft.rf.si (by omega)).si (by omega), by rw [hI_ne (by omega), hI_ne (by omega)], ⟨K, r1, k2, l2, ?_⟩, ?_⟩
    · simp (decide := true) (disch := (first | assumption | (simp only [Sh_setI, Sm_setI, Sh_setL, Sm_setL]; assumption) | omega)) only [encC, E_87, B_87_0, B_87_11, B_87_16, B_87_116, n_ltO, Nat.not_lt_zero, c_push X' hl hn, bI_True, bI_False, p_max, p_min, p_abs, Option.bind_some, Option.bind_none, Option.toList_some, Option.toList_none, List.cons_append, List.nil_append, bI_eq0, bI_ne0, bI_ne1, bI_eq1, bI_01, eq_self, true_or, or_true, and_true, true_and, false_and, and_false, false_or, or_false, ite_true, ite_false, if_true, if_false, not_true, not_false_iff, Classical.not_not, nem, ite_not, ne_eq]
    · rw [hI_ne (by omega), hI_eq, if_pos rfl]
    · rw [ups_h, hI_ne (by omega)]; rfl
  | .inr (.inl x) =>
    cases dp
    have hx : x < 6 := ok
    refine ⟨setI (setI h n0 3 (nI (n + 1))) (n0 + 2) n (hI h 18 x), ?_, (Ft.rf.si (by omega)).si (by omega), by rw [hI_ne (by omega), hI_ne (by omega)], ⟨K, r1, k2, l2, ?_⟩, ?_⟩
    · have e1 : encC (.inr (.inl x)) < 0 := by
        match x, hx with
        | 0, _ => decide
        | 1, _ => decide
        | 2, _ => decide
        | 3, _ => decide
        | 4, _ => decide
        | 5, _ => decide
      have e2 : -encC (.inr (.inl x)) - 133 = nI x := by
        match x, hx with
        | 0, _ => decide
        | 1, _ => decide
        | 2, _ => decide
        | 3, _ => decide
        | 4, _ => decide
        | 5, _ => decide
      generalize encC (.inr (.inl x)) = e at *
      simp (decide := true) (disch := (first | assumption | (simp only [Sh_setI, Sm_setI, Sh_setL, Sm_setL]; assumption) | omega)) only [E_87, B_87_0, B_87_19, B_87_23, B_87_29, B_87_36, B_87_116, e1, e2, n_ltO, Nat.not_lt_zero, n_le, show ¬ 6 ≤ x by omega, n_ix, n_cl, c_push X' hl hn, bI_True, bI_False, p_max, p_min, p_abs, Option.bind_some, Option.bind_none, Option.toList_some, Option.toList_none, List.cons_append, List.nil_append, bI_eq0, bI_ne0, bI_ne1, bI_eq1, bI_01, eq_self, true_or, or_true, and_true, true_and, false_and, and_false, false_or, or_false, ite_true, ite_false, if_true, if_false, not_true, not_false_iff, Classical.not_not, nem, ite_not, ne_eq]
    · rw [hI_ne (by omega), hI_eq, if_pos rfl]
    · rw [ups_h, hI_ne (by omega)]; rfl
  | .inr (.inr (.inl b)) =>
    simp only [depO] at dp
    split at dp
    · rename_i h1
      cases dp
      refine ⟨setI h (n0 + 2) (n - 1) (if b = true then bI (hI h (n0 + 2) (n - 1) = 0) else -hI h (n0 + 2) (n - 1)), ?_, Ft.rf.si (by omega), by rw [hI_ne (by omega)], ⟨K, r1, k2, l2, ?_⟩, ?_⟩
      · have ct := fun d => c_turn (d := d) X' hl (by omega) h1 b
        cases b
        · simp (decide := true) (disch := (first | assumption | (simp only [Sh_setI, Sm_setI, Sh_setL, Sm_setL]; assumption) | omega)) only [encC, bI_True, bI_False, p_max, p_min, p_abs, Option.bind_some, Option.bind_none, Option.toList_some, Option.toList_none, List.cons_append, List.nil_append, bI_eq0, bI_ne0, bI_ne1, bI_eq1, bI_01, eq_self, true_or, or_true, and_true, true_and, false_and, and_false, false_or, or_false, ite_true, ite_false, if_true, if_false, not_true, not_false_iff, Classical.not_not, nem, ite_not, ne_eq] at ct
          simp (decide := true) (disch := (first | assumption | (simp only [Sh_setI, Sm_setI, Sh_setL, Sm_setL]; assumption) | omega)) only [encC, E_87, B_87_0, B_87_19, B_87_39, B_87_46, B_87_52, B_87_57, B_87_116, reduceCtorEq, ct, bI_True, bI_False, p_max, p_min, p_abs, Option.bind_some, Option.bind_none, Option.toList_some, Option.toList_none, List.cons_append, List.nil_append, bI_eq0, bI_ne0, bI_ne1, bI_eq1, bI_01, eq_self, true_or, or_true, and_true, true_and, false_and, and_false, false_or, or_false, ite_true, ite_false, if_true, if_false, not_true, not_false_iff, Classical.not_not, nem, ite_not, ne_eq]
        · simp (decide := true) (disch := (first | assumption | (simp only [Sh_setI, Sm_setI, Sh_setL, Sm_setL]; assumption) | omega)) only [encC, bI_True, bI_False, p_max, p_min, p_abs, Option.bind_some, Option.bind_none, Option.toList_some, Option.toList_none, List.cons_append, List.nil_append, bI_eq0, bI_ne0, bI_ne1, bI_eq1, bI_01, eq_self, true_or, or_true, and_true, true_and, false_and, and_false, false_or, or_false, ite_true, ite_false, if_true, if_false, not_true, not_false_iff, Classical.not_not, nem, ite_not, ne_eq] at ct
          simp (decide := true) (disch := (first | assumption | (simp only [Sh_setI, Sm_setI, Sh_setL, Sm_setL]; assumption) | omega)) only [encC, E_87, B_87_0, B_87_19, B_87_39, B_87_46, B_87_52, B_87_57, B_87_116, reduceCtorEq, ct, bI_True, bI_False, p_max, p_min, p_abs, Option.bind_some, Option.bind_none, Option.toList_some, Option.toList_none, List.cons_append, List.nil_append, bI_eq0, bI_ne0, bI_ne1, bI_eq1, bI_01, eq_self, true_or, or_true, and_true, true_and, false_and, and_false, false_or, or_false, ite_true, ite_false, if_true, if_false, not_true, not_false_iff, Classical.not_not, nem, ite_not, ne_eq]
      · rw [hI_ne (by omega)]; exact t3
      · rw [ups_h]
        cases b <;> rfl
    · exact absurd dp (by simp)
  | .inr (.inr (.inr b)) =>
    have hb : b < 7 := ok
    simp only [depO] at dp
    split at dp
    · rename_i h1
      cases dp
      refine ⟨setI (setI h (n0 + 2) (n - 2) (joinF b (hI h (n0 + 2) (n - 2)) (hI h (n0 + 2) (n - 1)))) n0 3 (nI (n - 1)), ?_, (Ft.rf.si (by omega)).si (by omega), by rw [hI_ne (by omega), hI_ne (by omega)], ⟨K, r1, k2, l2, ?_⟩, ?_⟩
      · have e1 : encC (.inr (.inr (.inr b))) < 0 ∧ -encC (.inr (.inr (.inr b))) - 133 < 0 ∧ encC (.inr (.inr (.inr b))) ≠ -132 ∧ encC (.inr (.inr (.inr b))) ≠ -3 := by
          match b, hb with
          | 0, _ => decide
          | 1, _ => decide
          | 2, _ => decide
          | 3, _ => decide
          | 4, _ => decide
          | 5, _ => decide
          | 6, _ => decide
        have cj := fun d x y => c_join (d := d) (h := h) b hb (x := x) (y := y)
        generalize encC (.inr (.inr (.inr b))) = e at *
        obtain ⟨e1, e2, e3, e4⟩ := e1
        simp (decide := true) (disch := (first | assumption | (simp only [Sh_setI, Sm_setI, Sh_setL, Sm_setL]; assumption) | omega)) only [E_87, B_87_0, B_87_19, B_87_39, B_87_46, B_87_60, B_87_68, B_87_105, B_87_116, e1, e2, e3, e4, t3, n_ltO, show ¬ n < 2 by omega, r1, k2, l2, n_subO, n_ix, n_cl, cj, hI_ne, bI_True, bI_False, p_max, p_min, p_abs, Option.bind_some, Option.bind_none, Option.toList_some, Option.toList_none, List.cons_append, List.nil_append, bI_eq0, bI_ne0, bI_ne1, bI_eq1, bI_01, eq_self, true_or, or_true, and_true, true_and, false_and, and_false, false_or, or_false, ite_true, ite_false, if_true, if_false, not_true, not_false_iff, Classical.not_not, nem, ite_not, ne_eq]
      · rw [hI_eq, if_pos rfl]
      · rw [hI_ne (by omega), ups_h]; rfl
    · exact absurd dp (by simp)
end EVAL
