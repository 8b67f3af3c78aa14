/-! place: the class's cards -/
def Fp (h h' : am_H) : Prop := h'.1 = h.1 ∧ hkd h' = hkd h ∧ hln h' = hln h ∧ hR h' = hR h ∧ (∀ n, n ≠ 19 → hL h' n = hL h n) ∧ ∀ n, ¬ (19 ≤ n ∧ n ≤ 32) → hI h' n = hI h n
theorem Fp.rf {h : am_H} : Fp h h := ⟨rfl, rfl, rfl, rfl, fun _ _ => rfl, fun _ _ => rfl⟩
theorem Fp.tr {h h' h'' : am_H} (F : Fp h h') (G : Fp h' h'') : Fp h h'' := ⟨G.1.trans F.1, G.2.1.trans F.2.1, G.2.2.1.trans F.2.2.1, G.2.2.2.1.trans F.2.2.2.1, fun n q => (G.2.2.2.2.1 n q).trans (F.2.2.2.2.1 n q), fun n q => (G.2.2.2.2.2 n q).trans (F.2.2.2.2.2 n q)⟩
theorem Fp.si {h h' : am_H} (F : Fp h h') {n i : Nat} {v : Int32} (q : 19 ≤ n ∧ n ≤ 32) : Fp h (setI h' n i v) := ⟨F.1, F.2.1, F.2.2.1, F.2.2.2.1, F.2.2.2.2.1, fun a q1 => by rw [hI_ne (fun e => q1 (by rw [e]; exact q))]; exact F.2.2.2.2.2 a q1⟩
theorem Fi.fp {P : Nat → Prop} {h h' : am_H} (F : Fi P h h') (w : ∀ n, P n → 19 ≤ n ∧ n ≤ 32) : Fp h h' := ⟨F.1, F.2.1, F.2.2.1, F.2.2.2.1, fun n _ => by rw [F.2.2.2.2.1], fun n q => F.2.2.2.2.2 n (fun z => q (w n z))⟩
theorem Fp.sh {h h' : am_H} (F : Fp h h') (S : Sh h) : Sh h' := ⟨by rw [hk, F.1]; exact S.1, fun n q => by rw [F.2.1, F.2.2.1]; exact S.2.1 n q, fun n f q => by rw [F.2.2.2.1]; exact S.2.2 n f q⟩
theorem Fp.sm {h h' : am_H} (F : Fp h h') (S : Sm h) : Sm h' := ⟨by rw [hk, F.1]; exact S.1, fun n q => by rw [F.2.1, F.2.2.1]; exact S.2.1 n q, fun n f q => by rw [F.2.2.2.1]; exact S.2.2 n f q⟩
theorem Fp.kp {h h' : am_H} (F : Fp h h') : Kp h h' := ⟨F.1, F.2.1, F.2.2.1, F.2.2.2.1, F.2.2.2.2.1, F.2.2.2.2.2 1 (by omega), fun n j q _ _ => by
  rw [F.2.2.2.2.2 n (fun w => ?_)]
  have : scrC n = true := by simp [scrC]; omega
  rw [this] at q
  exact absurd q (by decide)⟩
/-- the cards that are heard of a shake -/
def LF (m : am_M) (s : Nat) (v : Int32) : Nat → List Nat
  | 0 => []
  | n + 1 => if m 67 n = nI s ∧ heardB m n v = true then LF m s v n ++ [n] else LF m s v n
theorem LF_le {m : am_M} {s : Nat} {v : Int32} : ∀ n, (LF m s v n).length ≤ n ∧ ∀ c, c ∈ LF m s v n → c < n := by
  intro n
  induction n with
  | zero => exact ⟨Nat.le_refl _, fun c q => absurd q (by simp [LF])⟩
  | succ n ih =>
    rw [LF]
    split
    · refine ⟨by rw [List.length_append]; exact Nat.succ_le_succ ih.1, fun c q => ?_⟩
      rcases List.mem_append.mp q with q | q
      · have := ih.2 c q; omega
      · have : c = n := by simpa using q
        omega
    · exact ⟨by have := ih.1; omega, fun c q => by have := ih.2 c q; omega⟩
/-- what was told of them -/
def Pc (m : am_M) (v : Int32) (L : List Nat) (h : am_H) : Prop := hI h 19 3 = nI L.length ∧ (∀ j c, L[j]? = some c → hI h 20 j = m 65 c ∧ hI h 21 j = m 59 (yDr m c) ∧ hI h 22 j = timeF m c v - m 60 (yDr m c) ∧ hI h 25 (cl (m 65 c)) = 1)
section PLACE1
variable {d : Nat} {h : am_H} {m : am_M}
theorem c_begin (S : Sh h) : ∃ h1, Cl (d + 4) 94 [vr (some 19)] h = some (none, h1) ∧ Fp h h1 ∧ hI h1 19 3 = 0 ∧ hI h1 19 8 = 0 := by
  have go : ∀ j k h', k + j = 6 → Fi (fun a => a = 25) (setI (setI h 19 3 0) 19 8 0) h' → ∃ h1, Ev (d + 4) 94 12 [vr (some 19), vi (nI k)] [] h' = some (none, h1) ∧ Fi (fun a => a = 25) (setI (setI h 19 3 0) 19 8 0) h1 := by
    intro j
    induction j with
    | zero =>
      intro k h' e F
      refine ⟨h', ?_, F⟩
      rw [B_94_12]
      simp (decide := true) (disch := (first | assumption | (simp only [Sh_setI, Sm_setI, Sh_setL, Sm_setL]; assumption) | omega)) only [n_Ole, show 6 ≤ k by omega, B_94_31, bI_True, bI_False, p_max, p_min, p_abs, Option.bind_some, Option.bind_none, Option.toList_some, Option.toList_none, List.cons_append, List.nil_append, bI_eq0, bI_ne0, bI_ne1, bI_eq1, bI_01, eq_self, true_or, or_true, and_true, true_and, false_and, and_false, false_or, or_false, ite_true, ite_false, if_true, if_false, not_true, not_false_iff, Classical.not_not, nem, ite_not, ne_eq]
    | succ j ih =>
      intro k h' e F
      have S' : Sh h' := F.sh S.si.si
      obtain ⟨h1, e1, F1⟩ := ih (k + 1) (setI h' 25 k 0) (by omega) (F.si rfl)
      refine ⟨h1, ?_, F1⟩
      rw [B_94_12]
      simp (decide := true) (disch := (first | assumption | (simp only [Sh_setI, Sm_setI, Sh_setL, Sm_setL]; assumption) | omega)) only [n_Ole, show ¬ 6 ≤ k by omega, B_94_18 S', n_ix, n_cl, n_addO, bI_True, bI_False, p_max, p_min, p_abs, Option.bind_some, Option.bind_none, Option.toList_some, Option.toList_none, List.cons_append, List.nil_append, bI_eq0, bI_ne0, bI_ne1, bI_eq1, bI_01, eq_self, true_or, or_true, and_true, true_and, false_and, and_false, false_or, or_false, ite_true, ite_false, if_true, if_false, not_true, not_false_iff, Classical.not_not, nem, ite_not, ne_eq]
      exact e1
  obtain ⟨h1, e1, F1⟩ := go 6 0 _ rfl Fi.rf
  refine ⟨h1, ?_, Fp.tr (Fp.si (Fp.si Fp.rf (by omega)) (by omega)) (F1.fp (fun n q => by omega)), ?_, ?_⟩
  · simp (decide := true) (disch := (first | assumption | (simp only [Sh_setI, Sm_setI, Sh_setL, Sm_setL]; assumption) | omega)) only [E_94, B_94_0 S, B_94_10, bI_True, bI_False, p_max, p_min, p_abs, Option.bind_some, Option.bind_none, Option.toList_some, Option.toList_none, List.cons_append, List.nil_append, bI_eq0, bI_ne0, bI_ne1, bI_eq1, bI_01, eq_self, true_or, or_true, and_true, true_and, false_and, and_false, false_or, or_false, ite_true, ite_false, if_true, if_false, not_true, not_false_iff, Classical.not_not, nem, ite_not, ne_eq]
    exact e1
  · rw [F1.2.2.2.2.2 19 (by omega), hI_eq, if_neg (by omega), hI_eq, if_pos rfl]
  · rw [F1.2.2.2.2.2 19 (by omega), hI_eq, if_pos rfl]
theorem c_addTime (S : Sh h) {n kd : Nat} (hn : n < 40) (hkd' : kd < 6) (q3 : hI h 19 3 = nI n) {a b : Int32} : Cl (d + 4) 96 [vr (some 19), vi (nI kd), vi a, vi b] h = some (none, setI (setI (setI (setI (setI (setI h 20 n (nI kd)) 21 n a) 22 n b) 23 n (nI n)) 25 kd 1) 19 3 (nI (n + 1))) := by
  simp (decide := true) (disch := (first | assumption | (simp only [Sh_setI, Sm_setI, Sh_setL, Sm_setL]; assumption) | omega)) only [E_96, B_96_0, B_96_9, B_96_29, B_96_52, B_96_69, q3, n_Ole, show ¬ 40 ≤ n by omega, n_ix, n_cl, hI_ne, n_addO, bI_True, bI_False, p_max, p_min, p_abs, Option.bind_some, Option.bind_none, Option.toList_some, Option.toList_none, List.cons_append, List.nil_append, bI_eq0, bI_ne0, bI_ne1, bI_eq1, bI_01, eq_self, true_or, or_true, and_true, true_and, false_and, and_false, false_or, or_false, ite_true, ite_false, if_true, if_false, not_true, not_false_iff, Classical.not_not, nem, ite_not, ne_eq]
theorem c_collect (S : Sh h) (I : Inv m) (C : CR m h) {s : Nat} {v : Int32} (hs6 : s < 6) : ∀ (j c : Nat) (h' : am_H) (a4 : am_V), c + j = yC m → Fp h h' → Pc m v (LF m s v c) h' → (∀ k, k < (LF m s v c).length → hI h' 23 k = nI k) → hI h' 19 8 = 0 → ∃ h1 a4', Ev (d + 12) 93 9 [vr (some 1), vi (nI s), vi v, vi (nI c), a4] [] h' = Ev (d + 12) 93 77 [vr (some 1), vi (nI s), vi v, vi (nI (yC m)), a4'] [] h1 ∧ Fp h h1 ∧ Pc m v (LF m s v (yC m)) h1 ∧ (∀ k, k < (LF m s v (yC m)).length → hI h1 23 k = nI k) ∧ hI h1 19 8 = 0 := by
  have q2 : m 56 12 = nI (yC m) := I.2.2.2.1.1.1
  have q3 : yC m ≤ 40 := I.2.2.2.1.1.2
  intro j
  induction j with
  | zero =>
    intro c h' a4 e F P O z8
    have S' := F.sh S
    have C' : CR m h' := F.kp.kq.cr S C
    have q1' : hI h' 1 6 = m 56 12 := C'.2.2.2.1.1
    have : c = yC m := by omega
    subst this
    refine ⟨h', a4, ?_, F, P, O, z8⟩
    rw [B_93_9 S', q1', q2]
    simp (decide := true) (disch := (first | assumption | (simp only [Sh_setI, Sm_setI, Sh_setL, Sm_setL]; assumption) | omega)) only [n_le, Nat.le_refl, bI_True, bI_False, p_max, p_min, p_abs, Option.bind_some, Option.bind_none, Option.toList_some, Option.toList_none, List.cons_append, List.nil_append, bI_eq0, bI_ne0, bI_ne1, bI_eq1, bI_01, eq_self, true_or, or_true, and_true, true_and, false_and, and_false, false_or, or_false, ite_true, ite_false, if_true, if_false, not_true, not_false_iff, Classical.not_not, nem, ite_not, ne_eq]
  | succ j ih =>
    intro c h' a4 e F P O z8
    have S' := F.sh S
    have C' : CR m h' := F.kp.kq.cr S C
    have q1' : hI h' 1 6 = m 56 12 := C'.2.2.2.1.1
    have hc : c < yC m := by omega
    obtain ⟨n, dn, sn, E⟩ := card_env I C' hc
    have J := card_int I hc
    obtain ⟨kd, hkd', ekd⟩ := J.1
    have ec := fun d => c_cardAt (d := d) S' (q1'.trans q2) q3 hc
    have eh := fun d => c_isHeard (d := d) E (v := v)
    have et := fun d => c_trueTime (d := d) E (v := v)
    have r1 := E.2.1.1
    have r2 := E.2.1.2.1
    have r3 := E.2.1.2.2.1
    have r4 := E.2.1.2.2.2.1
    have r5 := E.2.1.2.2.2.2.1
    have r6 := E.2.1.2.2.2.2.2
    have e0k : hI h' n 0 = nI kd := E.2.2.1.1.trans ekd
    have d1 := E.2.2.2.1.2.1
    have s0 : hI h' sn 0 = m 67 c := E.2.2.2.2.1.1
    have k19 : hkd h' 19 = 4 := S'.kd (n := 19) (k := 4) rfl rfl
    have ekd2 : cl (m 65 c) = kd := by rw [ekd, cl, n_cl (by omega)]
    have head : Ev (d + 12) 93 9 [vr (some 1), vi (nI s), vi v, vi (nI c), a4] [] h' = Ev (d + 12) 93 30 [vr (some 1), vi (nI s), vi v, vi (nI c), vr (some n)] [vi (bI (heardB m c v = true))] h' := by
      rw [B_93_9 S', q1', q2]
      simp (decide := true) (disch := (first | assumption | (simp only [Sh_setI, Sm_setI, Sh_setL, Sm_setL]; assumption) | omega)) only [n_le, show ¬ yC m ≤ c by omega, B_93_17 S', ec, r1, B_93_22, eh, bI_True, bI_False, p_max, p_min, p_abs, Option.bind_some, Option.bind_none, Option.toList_some, Option.toList_none, List.cons_append, List.nil_append, bI_eq0, bI_ne0, bI_ne1, bI_eq1, bI_01, eq_self, true_or, or_true, and_true, true_and, false_and, and_false, false_or, or_false, ite_true, ite_false, if_true, if_false, not_true, not_false_iff, Classical.not_not, nem, ite_not, ne_eq]
    rw [head]
    by_cases g : m 67 c = nI s ∧ heardB m c v = true
    · have el : LF m s v (c + 1) = LF m s v c ++ [c] := by rw [LF, if_pos g]
      have ln := (LF_le (m := m) (s := s) (v := v) c).1
      have ea := c_addTime (d := d + 7) S' (n := (LF m s v c).length) (kd := kd) (by omega) hkd' P.1 (a := m 59 (yDr m c)) (b := timeF m c v - m 60 (yDr m c))
      obtain ⟨h1, a4', e1, F1, P1, O1, z1⟩ := ih (c + 1) (setI (setI (setI (setI (setI (setI h' 20 (LF m s v c).length (nI kd)) 21 (LF m s v c).length (m 59 (yDr m c))) 22 (LF m s v c).length (timeF m c v - m 60 (yDr m c))) 23 (LF m s v c).length (nI (LF m s v c).length)) 25 kd 1) 19 3 (nI ((LF m s v c).length + 1))) (vr (some n)) (by omega) ((((((F.si (by omega)).si (by omega)).si (by omega)).si (by omega)).si (by omega)).si (by omega)) (by
        rw [el]
        refine ⟨by rw [hI_eq, if_pos rfl, List.length_append]; rfl, fun q c' w => ?_⟩
        simp (decide := true) (disch := (first | assumption | (simp only [Sh_setI, Sm_setI, Sh_setL, Sm_setL]; assumption) | omega)) only [hI_ne, hI_eq, bI_True, bI_False, p_max, p_min, p_abs, Option.bind_some, Option.bind_none, Option.toList_some, Option.toList_none, List.cons_append, List.nil_append, bI_eq0, bI_ne0, bI_ne1, bI_eq1, bI_01, eq_self, true_or, or_true, and_true, true_and, false_and, and_false, false_or, or_false, ite_true, ite_false, if_true, if_false, not_true, not_false_iff, Classical.not_not, nem, ite_not, ne_eq]
        by_cases w1 : q < (LF m s v c).length
        · rw [List.getElem?_append_left w1] at w
          obtain ⟨z1, z2, z3, z4⟩ := P.2 q c' w
          rw [if_neg (by omega), if_neg (by omega), if_neg (by omega)]
          refine ⟨z1, z2, z3, ?_⟩
          split
          · rfl
          · exact z4
        · rw [List.getElem?_append_right (by omega)] at w
          have w2 : q - (LF m s v c).length = 0 := by
            have := (List.getElem?_eq_some_iff.mp w).1
            simpa using this
          rw [w2] at w
          have w3 : c' = c := by simpa using w.symm
          have w4 : q = (LF m s v c).length := by omega
          rw [w3, if_pos w4, if_pos w4, if_pos w4, ekd2, if_pos rfl]
          exact ⟨ekd.symm, rfl, rfl, rfl⟩) (by
        rw [el, List.length_append]
        intro q hq
        simp (decide := true) (disch := (first | assumption | (simp only [Sh_setI, Sm_setI, Sh_setL, Sm_setL]; assumption) | omega)) only [hI_ne, hI_eq, bI_True, bI_False, p_max, p_min, p_abs, Option.bind_some, Option.bind_none, Option.toList_some, Option.toList_none, List.cons_append, List.nil_append, bI_eq0, bI_ne0, bI_ne1, bI_eq1, bI_01, eq_self, true_or, or_true, and_true, true_and, false_and, and_false, false_or, or_false, ite_true, ite_false, if_true, if_false, not_true, not_false_iff, Classical.not_not, nem, ite_not, ne_eq]
        by_cases w4 : q = (LF m s v c).length
        · rw [if_pos w4, w4]
        · rw [if_neg w4]; exact O q (by simp at hq; omega)) (by simp (decide := true) (disch := (first | assumption | (simp only [Sh_setI, Sm_setI, Sh_setL, Sm_setL]; assumption) | omega)) only [hI_ne, hI_eq, bI_True, bI_False, p_max, p_min, p_abs, Option.bind_some, Option.bind_none, Option.toList_some, Option.toList_none, List.cons_append, List.nil_append, bI_eq0, bI_ne0, bI_ne1, bI_eq1, bI_01, eq_self, true_or, or_true, and_true, true_and, false_and, and_false, false_or, or_false, ite_true, ite_false, if_true, if_false, not_true, not_false_iff, Classical.not_not, nem, ite_not, ne_eq]; exact z8)
      refine ⟨h1, a4', ?_, F1, P1, O1, z1⟩
      simp (decide := true) (disch := (first | assumption | (simp only [Sh_setI, Sm_setI, Sh_setL, Sm_setL]; assumption) | omega)) only [B_93_30, g.2, B_93_33, r2, r4, r6, s0, g.1, B_93_45 S', r3, r5, d1, e0k, et, B_93_68, k19, ea, B_93_71, n_addO, bI_True, bI_False, p_max, p_min, p_abs, Option.bind_some, Option.bind_none, Option.toList_some, Option.toList_none, List.cons_append, List.nil_append, bI_eq0, bI_ne0, bI_ne1, bI_eq1, bI_01, eq_self, true_or, or_true, and_true, true_and, false_and, and_false, false_or, or_false, ite_true, ite_false, if_true, if_false, not_true, not_false_iff, Classical.not_not, nem, ite_not, ne_eq]
      exact e1
    · have el : LF m s v (c + 1) = LF m s v c := by rw [LF, if_neg g]
      obtain ⟨h1, a4', e1, F1, P1, O1, z1⟩ := ih (c + 1) h' (vr (some n)) (by omega) F (by rw [el]; exact P) (by rw [el]; exact O) z8
      refine ⟨h1, a4', ?_, F1, P1, O1, z1⟩
      by_cases g2 : heardB m c v = true
      · have g1 : ¬ m 67 c = nI s := fun w => g ⟨w, g2⟩
        simp (decide := true) (disch := (first | assumption | (simp only [Sh_setI, Sm_setI, Sh_setL, Sm_setL]; assumption) | omega)) only [B_93_30, g2, B_93_33, r2, r4, r6, s0, g1, B_93_71, n_addO, bI_True, bI_False, p_max, p_min, p_abs, Option.bind_some, Option.bind_none, Option.toList_some, Option.toList_none, List.cons_append, List.nil_append, bI_eq0, bI_ne0, bI_ne1, bI_eq1, bI_01, eq_self, true_or, or_true, and_true, true_and, false_and, and_false, false_or, or_false, ite_true, ite_false, if_true, if_false, not_true, not_false_iff, Classical.not_not, nem, ite_not, ne_eq]
        exact e1
      · simp (decide := true) (disch := (first | assumption | (simp only [Sh_setI, Sm_setI, Sh_setL, Sm_setL]; assumption) | omega)) only [B_93_30, g2, B_93_71, n_addO, bI_True, bI_False, p_max, p_min, p_abs, Option.bind_some, Option.bind_none, Option.toList_some, Option.toList_none, List.cons_append, List.nil_append, bI_eq0, bI_ne0, bI_ne1, bI_eq1, bI_01, eq_self, true_or, or_true, and_true, true_and, false_and, and_false, false_or, or_false, ite_true, ite_false, if_true, if_false, not_true, not_false_iff, Classical.not_not, nem, ite_not, ne_eq]
        exact e1
end PLACE1
