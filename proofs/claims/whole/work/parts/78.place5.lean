/-! place: the class's search, the loops -/
section PLACE5
variable {d : Nat} {h : am_H} {m : am_M}
theorem c_rowP (I : Inv m) {v : Int32} {L : List Nat} (hLc : ∀ c, c ∈ L → c < yC m) (hn : L.length ≤ 40) (h1' : 1 ≤ L.length) {i : Nat} (hi : i < 5) : ∀ (j p : Nat) (h : am_H) (b : Option (Nat × Nat)), p + j = 360 → Sh h → Pc m v L h → Pd m i L h → Od L.length (hI h 23) → Bs m v L b h → Best (okP m L) (offP m v L) (fun p' i' => p' < 360 ∧ (i' < i ∨ (i' = i ∧ p' < p))) b → ∃ h1 b', Ev (d + 14) 97 23 [vr (some 19), vr (some 2), vi (nI (20 * i)), vi (nI p)] [] h = Ev (d + 14) 97 54 [vr (some 19), vr (some 2), vi (nI (20 * i)), vi (nI 360)] [] h1 ∧ Fp h h1 ∧ Pc m v L h1 ∧ Od L.length (hI h1 23) ∧ Bs m v L b' h1 ∧ Best (okP m L) (offP m v L) (fun p' i' => p' < 360 ∧ i' < i + 1) b' := by
  intro j
  induction j with
  | zero =>
    intro p h b e S P D O B T
    have : p = 360 := by omega
    subst this
    refine ⟨h, b, ?_, Fp.rf, P, O, B, best_cg (fun p' i' => by omega) T⟩
    rw [B_97_23]
    simp (decide := true) (disch := (first | assumption | (simp only [Sh_setI, Sm_setI, Sh_setL, Sm_setL]; assumption) | omega)) only [n_Ole, Nat.le_refl, bI_True, bI_False, p_max, p_min, p_abs, Option.bind_some, Option.bind_none, Option.toList_some, Option.toList_none, List.cons_append, List.nil_append, bI_eq0, bI_ne0, bI_ne1, bI_eq1, bI_01, eq_self, true_or, or_true, and_true, true_and, false_and, and_false, false_or, or_false, ite_true, ite_false, if_true, if_false, not_true, not_false_iff, Classical.not_not, nem, ite_not, ne_eq]
  | succ j ih =>
    intro p h b e S P D O B T
    obtain ⟨h1, b1, e1, F1, P1, D1, O1, B1, T1⟩ := c_oneP (d := d) S I hLc hn h1' hi (show p < 360 by omega) P D O B T
    obtain ⟨h2, b2, e2, F2, r⟩ := ih (p + 1) h1 b1 (by omega) (F1.sh S) P1 D1 O1 B1 T1
    exact ⟨h2, b2, e1.trans e2, F1.tr F2, r⟩
theorem c_search (S : Sh h) (I : Inv m) (C : CR m h) {v : Int32} {L : List Nat} (hLc : ∀ c, c ∈ L → c < yC m) (hn : L.length ≤ 40) (h1' : 1 ≤ L.length) : ∀ (j i : Nat) (h' : am_H) (a3 : am_V) (b : Option (Nat × Nat)), i + j = 5 → Fp h h' → Pc m v L h' → Od L.length (hI h' 23) → Bs m v L b h' → Best (okP m L) (offP m v L) (fun p' i' => p' < 360 ∧ i' < i) b → ∃ h1 b', Ev (d + 14) 97 2 [vr (some 19), vr (some 2), vi (nI (20 * i)), a3] [] h' = some (none, h1) ∧ Fp h h1 ∧ Bs m v L b' h1 ∧ Best (okP m L) (offP m v L) (fun p' i' => p' < 360 ∧ i' < 5) b' := by
  intro j
  induction j with
  | zero =>
    intro i h' a3 b e F P O B T
    have : i = 5 := by omega
    subst this
    refine ⟨h', b, ?_, F, B, T⟩
    rw [B_97_2]
    simp (decide := true) (disch := (first | assumption | (simp only [Sh_setI, Sm_setI, Sh_setL, Sm_setL]; assumption) | omega)) only [n_Olt, B_97_60, bI_True, bI_False, p_max, p_min, p_abs, Option.bind_some, Option.bind_none, Option.toList_some, Option.toList_none, List.cons_append, List.nil_append, bI_eq0, bI_ne0, bI_ne1, bI_eq1, bI_01, eq_self, true_or, or_true, and_true, true_and, false_and, and_false, false_or, or_false, ite_true, ite_false, if_true, if_false, not_true, not_false_iff, Classical.not_not, nem, ite_not, ne_eq]
  | succ j ih =>
    intro i h' a3 b e F P O B T
    have S' := F.sh S
    have C' : CR m h' := F.kp.kq.cr S C
    obtain ⟨h1, e1, F1, D1⟩ := c_tellDues (d := d + 3) S' I C'.1 hLc P (show i < 5 by omega)
    have st1 := F1.2.2.2.2.2
    obtain ⟨h2, b2, e2, F2, P2, O2, B2, T2⟩ := c_rowP (d := d) I hLc hn h1' (show i < 5 by omega) 360 0 h1 b (by omega) (F1.sh S') (P.cg (by rw [st1 19 (by omega)]) (fun n q => st1 n (by omega))) D1 (by rw [st1 23 (by omega)]; exact O) (B.cg (st1 19 (by omega)) (by rw [F1.2.2.2.2.1])) (best_cg (fun p' i' => by omega) T)
    obtain ⟨h3, b3, e3, r⟩ := ih (i + 1) h2 (vi (nI 360)) b2 (by omega) ((F.tr (F1.fp (fun n q => by omega))).tr F2) P2 O2 B2 T2
    refine ⟨h3, b3, ?_, r⟩
    have q3 : hI h' 19 3 = nI L.length := P.1
    rw [B_97_2]
    simp (decide := true) (disch := (first | assumption | (simp only [Sh_setI, Sm_setI, Sh_setL, Sm_setL]; assumption) | omega)) only [n_Olt, show ¬ 80 < 20 * i by omega, B_97_8 S', q3, n_leO, show ¬ L.length ≤ 0 by omega, B_97_15 S', e1, B_97_21, bI_True, bI_False, p_max, p_min, p_abs, Option.bind_some, Option.bind_none, Option.toList_some, Option.toList_none, List.cons_append, List.nil_append, bI_eq0, bI_ne0, bI_ne1, bI_eq1, bI_01, eq_self, true_or, or_true, and_true, true_and, false_and, and_false, false_or, or_false, ite_true, ite_false, if_true, if_false, not_true, not_false_iff, Classical.not_not, nem, ite_not, ne_eq]
    refine e2.trans ?_
    simp (decide := true) (disch := (first | assumption | (simp only [Sh_setI, Sm_setI, Sh_setL, Sm_setL]; assumption) | omega)) only [B_97_54, n_addO, bI_True, bI_False, p_max, p_min, p_abs, Option.bind_some, Option.bind_none, Option.toList_some, Option.toList_none, List.cons_append, List.nil_append, bI_eq0, bI_ne0, bI_ne1, bI_eq1, bI_01, eq_self, true_or, or_true, and_true, true_and, false_and, and_false, false_or, or_false, ite_true, ite_false, if_true, if_false, not_true, not_false_iff, Classical.not_not, nem, ite_not, ne_eq]
    rw [show 20 * i + 20 = 20 * (i + 1) by omega]
    exact e3
theorem c_find (S : Sh h) (I : Inv m) (C : CR m h) {s : Nat} {v : Int32} (hs6 : s < 6) : ∃ h1 b, Cl (d + 18) 93 [vr (some 1), vi (nI s), vi v] h = some (some (vi (bI (b ≠ none))), h1) ∧ Fp h h1 ∧ Bs m v (LF m s v (yC m)) b h1 ∧ Best (okP m (LF m s v (yC m))) (offP m v (LF m s v (yC m))) (fun p' i' => p' < 360 ∧ i' < 5) b := by
  have q3 : yC m ≤ 40 := I.2.2.2.1.1.2
  obtain ⟨h1, e1, F1, z3, z8⟩ := c_begin (d := d + 13) S
  obtain ⟨h2, a4, e2, F2, P2, O2, w8⟩ := c_collect (d := d + 6) S I C (v := v) hs6 (yC m) 0 h1 vu (by omega) F1 ⟨z3, fun j c q => absurd q (by simp [LF])⟩ (fun k hk => absurd hk (by simp [LF])) z8
  have S1 := F1.sh S
  have S2 := F2.sh S
  obtain ⟨l1, l2⟩ := LF_le (m := m) (s := s) (v := v) (yC m)
  have k19 : hkd h 19 = 4 := S.kd (n := 19) (k := 4) rfl rfl
  have C2 : CR m h2 := F2.kp.kq.cr S C
  have head : Cl (d + 18) 93 [vr (some 1), vi (nI s), vi v] h = Ev (d + 18) 93 77 [vr (some 1), vi (nI s), vi v, vi (nI (yC m)), a4] [] h2 := by
    simp (decide := true) (disch := (first | assumption | (simp only [Sh_setI, Sm_setI, Sh_setL, Sm_setL]; assumption) | omega)) only [E_93, B_93_0 S, e1, B_93_7, bI_True, bI_False, p_max, p_min, p_abs, Option.bind_some, Option.bind_none, Option.toList_some, Option.toList_none, List.cons_append, List.nil_append, bI_eq0, bI_ne0, bI_ne1, bI_eq1, bI_01, eq_self, true_or, or_true, and_true, true_and, false_and, and_false, false_or, or_false, ite_true, ite_false, if_true, if_false, not_true, not_false_iff, Classical.not_not, nem, ite_not, ne_eq]
    exact e2
  rw [head]
  generalize LF m s v (yC m) = L at *
  by_cases h0 : L.length = 0
  · have L0 : L = [] := List.eq_nil_of_length_eq_zero h0
    refine ⟨h2, none, ?_, F2, w8, ?_⟩
    · have q3' : hI h2 19 3 = nI L.length := P2.1
      rw [h0] at q3'
      simp (decide := true) (disch := (first | assumption | (simp only [Sh_setI, Sm_setI, Sh_setL, Sm_setL]; assumption) | omega)) only [B_93_77 S2, E_97, B_97_0, B_97_2, B_97_8 S2, q3', n_leO, B_97_60, B_93_88 S2, w8, ne_eq, not_true, bI_True, bI_False, p_max, p_min, p_abs, Option.bind_some, Option.bind_none, Option.toList_some, Option.toList_none, List.cons_append, List.nil_append, bI_eq0, bI_ne0, bI_ne1, bI_eq1, bI_01, eq_self, true_or, or_true, and_true, true_and, false_and, and_false, false_or, or_false, ite_true, ite_false, if_true, if_false, not_true, not_false_iff, Classical.not_not, nem, ite_not, ne_eq]
    · intro p i _
      rw [L0]
      rfl
  · obtain ⟨h3, b, e3, F3, B3, T3⟩ := c_search (d := d + 3) S2 I C2 l2 (by omega) (by omega) 5 0 h2 vu none (by omega) Fp.rf P2 (by
      have : hlL (hI h2 23) L.length = hlL (fun k => nI k) L.length := hlL_cg (fun k hk => O2 k hk)
      unfold Od
      rw [this]) w8 (fun p i q => by omega)
    refine ⟨h3, b, ?_, F2.tr F3, B3, T3⟩
    have S3 := F3.sh S2
    have e3' : Cl (d + 17) 97 [vr (some 19), vr (some 2)] h2 = some (none, h3) := by
      rw [E_97, B_97_0]
      exact e3
    cases b with
    | none =>
      have z : hI h3 19 8 = 0 := B3
      simp (decide := true) (disch := (first | assumption | (simp only [Sh_setI, Sm_setI, Sh_setL, Sm_setL]; assumption) | omega)) only [B_93_77 S2, e3', B_93_88 S3, z, bI_True, bI_False, p_max, p_min, p_abs, Option.bind_some, Option.bind_none, Option.toList_some, Option.toList_none, List.cons_append, List.nil_append, bI_eq0, bI_ne0, bI_ne1, bI_eq1, bI_01, eq_self, true_or, or_true, and_true, true_and, false_and, and_false, false_or, or_false, ite_true, ite_false, if_true, if_false, not_true, not_false_iff, Classical.not_not, nem, ite_not, ne_eq]
    | some x =>
      have z : hI h3 19 8 = 1 := B3.1
      simp (decide := true) (disch := (first | assumption | (simp only [Sh_setI, Sm_setI, Sh_setL, Sm_setL]; assumption) | omega)) only [B_93_77 S2, e3', B_93_88 S3, z, reduceCtorEq, bI_True, bI_False, p_max, p_min, p_abs, Option.bind_some, Option.bind_none, Option.toList_some, Option.toList_none, List.cons_append, List.nil_append, bI_eq0, bI_ne0, bI_ne1, bI_eq1, bI_01, eq_self, true_or, or_true, and_true, true_and, false_and, and_false, false_or, or_false, ite_true, ite_false, if_true, if_false, not_true, not_false_iff, Classical.not_not, nem, ite_not, ne_eq]
end PLACE5
