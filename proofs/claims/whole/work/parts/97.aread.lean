/-! text: read by both -/
section TXT2
variable {d : Nat} {h : am_H}
theorem c_read {b : Nat → Nat} {sz N : Nat} {q1 q2 : tRs} (S : Sh h) (L : Ls h) (H : Bt b sz h) (hN : N ≤ sz) (n1 : ∀ k, k < N → stF b sz k < sz) (n2 : ¬ stF b sz N < sz) (hT0 : ∀ t, N ≤ t → tkF b sz t = 0) (P1 : Pq (tkF b sz) (vlF b sz) 128 0 [] q1) (P2 : q1.1 = true → Pq (tkF b sz) (vlF b sz) 129 q1.2.1 q1.2.2 q2) : ∃ hc, Fi (fun a => a = 10 ∨ a = 13 ∨ a = 14 ∨ a = 15 ∨ a = 16) h hc ∧ (∀ k, k ≤ N → hI hc 14 k = nI (stF b sz k)) ∧ ((q1.1 = true ∧ q2.1 = true ∧ tkF b sz q2.2.1 = 0) → Cl (d + 76) 9 [vr (some 10)] h = Ev (d + 76) 9 61 [vr (some 10), vi (nI q1.2.2.length)] [] hc ∧ Co q2.2.2 hc) ∧ (¬ (q1.1 = true ∧ q2.1 = true ∧ tkF b sz q2.2.1 = 0) → Cl (d + 76) 9 [vr (some 10)] h = some (some (vr none), hc) ∧ hI hc 10 1 = nI (if q1.1 = true then q2.2.1 else q1.2.1)) := by
  have h160 : sz ≤ 160 := H.1
  have hTb : ∀ t, tkF b sz t < 200 := fun t => Nat.lt_trans (tkB_lt (tk_ok (b := b) (sz := sz) (k := t))) (by decide)
  have hV : ∀ k, tkF b sz k = 1 → vlF b sz k ≤ 9999 := fun k _ => val_ok
  obtain ⟨h1, e1, F1, K1, s1⟩ := c_split (d := d + 43) S L H hN n1 n2
  have S1 := F1.sh S
  have S2 : Sh (setI (setI h1 10 1 0) 10 3 0) := S1.si.si
  have G2 : Fi (fun a => a = 10 ∨ a = 16) h1 (setI (setI h1 10 1 0) 10 3 0) := (Fi.rf.si (Or.inl rfl)).si (Or.inl rfl)
  have K2 := K1.fi G2
  have C2 : Co [] (setI (setI h1 10 1 0) 10 3 0) := ⟨by rw [hI_eq, if_pos rfl]; rfl, fun k o z => by simp at z⟩
  obtain ⟨h3, e3, G3, p3, c3, -⟩ := c_part (d := d + 5) (by omega) hT0 hTb hV (by omega) P1 (Nat.zero_le _) (Nat.le_refl _) S2 K2 (by rw [hI_eq, if_neg (by omega), hI_eq, if_pos rfl]; rfl) C2
  have e3' : Cl (d + 75) 20 [vr (some 10), vi 128] (setI (setI h1 10 1 0) 10 3 0) = some (some (vi (bI (q1.1 = true))), h3) := e3
  have S3 := G3.sh S2
  have F3 : Fi (fun a => a = 10 ∨ a = 13 ∨ a = 14 ∨ a = 15 ∨ a = 16) h h3 := (F1.mono (fun n q => by omega)).tr ((G2.tr G3).mono (fun n q => by omega))
  have s3 : ∀ k, k ≤ N → hI h3 14 k = nI (stF b sz k) := fun k hk => by rw [(G2.tr G3).2.2.2.2.2 14 (by omega)]; exact s1 k hk
  have head : Cl (d + 76) 9 [vr (some 10)] h = Ev (d + 76) 9 24 [vr (some 10), vu] [vi (bI (q1.1 = true))] h3 := by
    simp (decide := true) (disch := (first | assumption | (simp only [Sh_setI, Sm_setI, Sh_setL, Sm_setL]; assumption) | omega)) only [E_9, B_9_0 S, e1, B_9_7 S1, B_9_17 S2, e3', bI_True, bI_False, p_max, p_min, p_abs, Option.bind_some, Option.bind_none, Option.toList_some, Option.toList_none, List.cons_append, List.nil_append, bI_eq0, bI_ne0, bI_ne1, bI_eq1, bI_01, eq_self, true_or, or_true, and_true, true_and, false_and, and_false, false_or, or_false, ite_true, ite_false, if_true, if_false, not_true, not_false_iff, Classical.not_not, nem, ite_not, ne_eq]
  obtain ⟨f1, f2⟩ := pq_fact hT0 hV P1 (Nat.zero_le _) (by omega)
  by_cases w1 : q1.1 = true
  · obtain ⟨f3, -⟩ := f2 w1
    have f3 : q1.2.2.length + 2 ≤ q1.2.1 := by
      have : ([] : List tOp).length = 0 := rfl
      omega
    have K3 := K2.fi G3
    have C3 := c3 w1
    obtain ⟨h4, e4, G4, p4, c4, -⟩ := c_part (d := d + 5) (by omega) hT0 hTb hV (by omega) (P2 w1) f1 (by omega) S3 K3 p3 C3
    have e4' : Cl (d + 75) 20 [vr (some 10), vi 129] h3 = some (some (vi (bI (q2.1 = true))), h4) := e4
    have S4 := G4.sh S3
    have F4 := F3.tr (G4.mono (fun n q => by omega))
    have s4 : ∀ k, k ≤ N → hI h4 14 k = nI (stF b sz k) := fun k hk => by rw [G4.2.2.2.2.2 14 (by omega)]; exact s3 k hk
    obtain ⟨g1, -⟩ := pq_fact hT0 hV (P2 w1) f1 (by omega)
    have K4 := K3.fi G4
    have kt := (K4 _ g1).1
    have tb := hTb q2.2.1
    have head2 : Cl (d + 76) 9 [vr (some 10)] h = Ev (d + 76) 9 41 [vr (some 10), vi (nI q1.2.2.length)] [vi (bI (q2.1 = true))] h4 := by
      rw [head]
      simp (decide := true) (disch := (first | assumption | (simp only [Sh_setI, Sm_setI, Sh_setL, Sm_setL]; assumption) | omega)) only [w1, B_9_24, B_9_29 S3, e4', C3.1, bI_True, bI_False, p_max, p_min, p_abs, Option.bind_some, Option.bind_none, Option.toList_some, Option.toList_none, List.cons_append, List.nil_append, bI_eq0, bI_ne0, bI_ne1, bI_eq1, bI_01, eq_self, true_or, or_true, and_true, true_and, false_and, and_false, false_or, or_false, ite_true, ite_false, if_true, if_false, not_true, not_false_iff, Classical.not_not, nem, ite_not, ne_eq]
    rw [if_pos w1, head2]
    refine ⟨h4, F4, s4, fun z => ⟨?_, c4 z.2.1⟩, fun z => ⟨?_, p4⟩⟩
    · have t0 : hI h4 13 q2.2.1 = 0 := by rw [kt, z.2.2]; rfl
      simp (decide := true) (disch := (first | assumption | (simp only [Sh_setI, Sm_setI, Sh_setL, Sm_setL]; assumption) | omega)) only [z.2.1, B_9_41, B_9_44 S4, p4, n_ix, n_cl, t0, bI_True, bI_False, p_max, p_min, p_abs, Option.bind_some, Option.bind_none, Option.toList_some, Option.toList_none, List.cons_append, List.nil_append, bI_eq0, bI_ne0, bI_ne1, bI_eq1, bI_01, eq_self, true_or, or_true, and_true, true_and, false_and, and_false, false_or, or_false, ite_true, ite_false, if_true, if_false, not_true, not_false_iff, Classical.not_not, nem, ite_not, ne_eq]
    · by_cases w2 : q2.1 = true
      · have w3 : ¬ tkF b sz q2.2.1 = 0 := fun y => z ⟨w1, w2, y⟩
        simp (decide := true) (disch := (first | assumption | (simp only [Sh_setI, Sm_setI, Sh_setL, Sm_setL]; assumption) | omega)) only [w2, B_9_41, B_9_44 S4, p4, n_ix, n_cl, kt, n_eqO, w3, B_9_59, bI_True, bI_False, p_max, p_min, p_abs, Option.bind_some, Option.bind_none, Option.toList_some, Option.toList_none, List.cons_append, List.nil_append, bI_eq0, bI_ne0, bI_ne1, bI_eq1, bI_01, eq_self, true_or, or_true, and_true, true_and, false_and, and_false, false_or, or_false, ite_true, ite_false, if_true, if_false, not_true, not_false_iff, Classical.not_not, nem, ite_not, ne_eq]
      · simp (decide := true) (disch := (first | assumption | (simp only [Sh_setI, Sm_setI, Sh_setL, Sm_setL]; assumption) | omega)) only [w2, B_9_41, B_9_59, bI_True, bI_False, p_max, p_min, p_abs, Option.bind_some, Option.bind_none, Option.toList_some, Option.toList_none, List.cons_append, List.nil_append, bI_eq0, bI_ne0, bI_ne1, bI_eq1, bI_01, eq_self, true_or, or_true, and_true, true_and, false_and, and_false, false_or, or_false, ite_true, ite_false, if_true, if_false, not_true, not_false_iff, Classical.not_not, nem, ite_not, ne_eq]
  · rw [if_neg w1, head]
    refine ⟨h3, F3, s3, fun z => absurd z.1 w1, fun z => ⟨?_, p3⟩⟩
    simp (decide := true) (disch := (first | assumption | (simp only [Sh_setI, Sm_setI, Sh_setL, Sm_setL]; assumption) | omega)) only [w1, B_9_24, B_9_27, bI_True, bI_False, p_max, p_min, p_abs, Option.bind_some, Option.bind_none, Option.toList_some, Option.toList_none, List.cons_append, List.nil_append, bI_eq0, bI_ne0, bI_ne1, bI_eq1, bI_01, eq_self, true_or, or_true, and_true, true_and, false_and, and_false, false_or, or_false, ite_true, ite_false, if_true, if_false, not_true, not_false_iff, Classical.not_not, nem, ite_not, ne_eq]
theorem m_read {b : Nat → Nat} {sz N R : Nat} {q1 q2 : tRs} (S : Sm h) (L : Lt h) (h160 : sz ≤ 160) (hB : ∀ k, k < sz → b k < 256 ∧ hI h 73 k = nI (b k)) (hN : N ≤ 160) (esz : hI h 56 22 = nI sz) (e25 : hI h 56 25 = nI R) (hR6 : R < 6) (hT0 : ∀ t, N ≤ t → tkF b sz t = 0) (P1 : Pq (tkF b sz) (vlF b sz) 128 0 [] q1) (P2 : q1.1 = true → Pq (tkF b sz) (vlF b sz) 129 q1.2.1 q1.2.2 q2) : ∃ h2, Fg R 0 h h2 ∧ ((q1.1 = true ∧ q2.1 = true ∧ tkF b sz q2.2.1 = 0) → Cl (d + 20) 175 [vr (some 56)] h = Ev (d + 20) 175 122 [vr (some 56), vi 1, vi 2] [] h2 ∧ Mo R q2.2.2 h2 ∧ hI h2 75 (4 * R) = nI 0 ∧ hI h2 75 (4 * R + 1) = nI q1.2.2.length) ∧ (¬ (q1.1 = true ∧ q2.1 = true ∧ tkF b sz q2.2.1 = 0) → (∃ a2, Cl (d + 20) 175 [vr (some 56)] h = Ev (d + 20) 175 122 [vr (some 56), vi 0, vi a2] [] h2) ∧ hI h2 56 46 = nI (stF b sz (if q1.1 = true then q2.2.1 else q1.2.1))) := by
  have hTb : ∀ t, tkB (tkF b sz t) = true := fun t => tk_ok
  have hV : ∀ k, tkF b sz k = 1 → vlF b sz k ≤ 9999 := fun k _ => val_ok
  have nx : NX (tkF b sz) (vlF b sz) (psF b sz) (stF b sz) N sz (hI h 73) := m_next h160 hB
  have F1 : Fg R 0 h (setI (setI h 56 45 0) 56 53 0) := (Fg.rf.s6 (by omega)).s6 (by omega)
  have S1 : Sm (setI (setI h 56 45 0) 56 53 0) := S.si.si
  have frm : ∀ h', Fg R 0 h h' → Sm h' ∧ Lt h' ∧ hI h' 73 = hI h 73 ∧ hI h' 56 22 = nI sz ∧ hI h' 56 25 = nI R := fun h' F => ⟨F.1.sm S, F.1.lt (fun n q => by omega) L, F.1.2.2.2.2.2 73 (by omega), by rw [F.2.1 22 (by omega)]; exact esz, by rw [F.2.1 25 (by omega)]; exact e25⟩
  obtain ⟨-, L1, x73, x22, x25⟩ := frm _ F1
  have M1 : Mo R [] (setI (setI h 56 45 0) 56 53 0) := ⟨x25, by rw [hI_eq, if_pos rfl]; rfl, fun k o z => by simp at z⟩
  obtain ⟨h3, e3, F3, y3, ok3, no3⟩ := m_part (d := d) hN hT0 hTb hV hR6 nx (show 0 < 2 by omega) P1 (Nat.zero_le _) (Nat.le_refl _) S1 L1 x73 x22 (by rw [hI_eq, if_neg (by omega), hI_eq, if_pos rfl]; rfl) M1
  have F4 := F1.tr F3
  have head : Cl (d + 20) 175 [vr (some 56)] h = Ev (d + 20) 175 26 [vr (some 56), vi (bI (q1.1 = true)), vi (nI 1)] [] h3 := by
    have nr : ¬ nI R = 6 := fun z => by rw [n_eqO (by omega) (by decide)] at z; omega
    rw [show nI (0 + 1) = nI 1 from rfl, show vi (nI 0) = vi 0 from rfl] at e3
    rw [← e3]
    simp (decide := true) (disch := (first | assumption | (simp only [Sh_setI, Sm_setI, Sh_setL, Sm_setL]; assumption) | omega)) only [E_175, B_175_0 S, e25, nr, B_175_12 S, B_175_22, B_175_26, B_175_31, bI_True, bI_False, p_max, p_min, p_abs, Option.bind_some, Option.bind_none, Option.toList_some, Option.toList_none, List.cons_append, List.nil_append, bI_eq0, bI_ne0, bI_ne1, bI_eq1, bI_01, eq_self, true_or, or_true, and_true, true_and, false_and, and_false, false_or, or_false, ite_true, ite_false, if_true, if_false, not_true, not_false_iff, Classical.not_not, nem, ite_not, ne_eq]
  obtain ⟨f1, f2⟩ := pq_fact hT0 hV P1 (Nat.zero_le _) (by omega)
  by_cases w1 : q1.1 = true
  · obtain ⟨f3, -⟩ := f2 w1
    have f3 : q1.2.2.length + 2 ≤ q1.2.1 := by
      have : ([] : List tOp).length = 0 := rfl
      omega
    obtain ⟨T3, L3, z73, z22, z25⟩ := frm _ F4
    obtain ⟨o45, M3, -⟩ := ok3 w1
    obtain ⟨h5, e5, F5, y5, ok5, no5⟩ := m_part (d := d) hN hT0 hTb hV hR6 nx (show 1 < 2 by omega) (P2 w1) f1 (by omega) T3 L3 z73 z22 o45 ⟨M3.1, M3.2.2.2.1, M3.2.2.2.2⟩
    have F6 := F4.tr (F5.mono (Nat.zero_le _))
    obtain ⟨T5, L5, v73, v22, v25⟩ := frm _ F6
    have head2 : Cl (d + 20) 175 [vr (some 56)] h = Ev (d + 20) 175 101 [vr (some 56), vi (bI (q2.1 = true)), vi 2] [] h5 := by
      rw [head, w1, show vi (nI 2) = vi 2 from rfl] at *
      rw [show bI (true = true) = 1 from bI_T rfl]
      have : Ev (d + 20) 175 26 [vr (some 56), vi 1, vi (nI 1)] [] h3 = Ev (d + 20) 175 35 [vr (some 56), vi 1, vi (nI 1)] [] h3 := by
        simp (decide := true) (disch := (first | assumption | (simp only [Sh_setI, Sm_setI, Sh_setL, Sm_setL]; assumption) | omega)) only [B_175_26, n_Ole, B_175_31, bI_True, bI_False, p_max, p_min, p_abs, Option.bind_some, Option.bind_none, Option.toList_some, Option.toList_none, List.cons_append, List.nil_append, bI_eq0, bI_ne0, bI_ne1, bI_eq1, bI_01, eq_self, true_or, or_true, and_true, true_and, false_and, and_false, false_or, or_false, ite_true, ite_false, if_true, if_false, not_true, not_false_iff, Classical.not_not, nem, ite_not, ne_eq]
      rw [this, e5]
      simp (decide := true) (disch := (first | assumption | (simp only [Sh_setI, Sm_setI, Sh_setL, Sm_setL]; assumption) | omega)) only [B_175_26, bI_True, bI_False, p_max, p_min, p_abs, Option.bind_some, Option.bind_none, Option.toList_some, Option.toList_none, List.cons_append, List.nil_append, bI_eq0, bI_ne0, bI_ne1, bI_eq1, bI_01, eq_self, true_or, or_true, and_true, true_and, false_and, and_false, false_or, or_false, ite_true, ite_false, if_true, if_false, not_true, not_false_iff, Classical.not_not, nem, ite_not, ne_eq]
    obtain ⟨g1, -⟩ := pq_fact hT0 hV (P2 w1) f1 (by omega)
    have y0 : hI h5 75 (4 * R) = nI 0 := by
      rw [F5.2.2.2 _ (by omega)]; exact y3
    by_cases w2 : q2.1 = true
    · obtain ⟨u45, M5, -⟩ := ok5 w2
      obtain ⟨h6, e6, X6⟩ := nx (d + 7) q2.2.1 h5 g1 T5 L5 v73 v22 u45
      have F7 : Fe R h5 h6 := X6.fe
      obtain ⟨G6, g2, g45, g46, g47, -⟩ := X6
      have S6 := G6.sm T5
      have m0 := (mtk (hTb q2.2.1)).2.1.2.2.2.1
      refine ⟨h6, F6.tr F7.fg, fun z => ⟨?_, ⟨(g2 25 (by omega)).trans v25, (g2 53 (by omega)).trans M5.2.2.2.1, fun k o y => by rw [G6.2.2.2.2.2 74 (by omega)]; exact M5.2.2.2.2 k o y⟩, by rw [G6.2.2.2.2.2 75 (by omega)]; exact y0, by rw [G6.2.2.2.2.2 75 (by omega)]; exact y5⟩, fun z => ⟨⟨2, ?_⟩, by rw [if_pos w1]; exact g46⟩⟩
      · have t0 := m0.mpr z.2.2
        rw [head2]
        simp (decide := true) (disch := (first | assumption | (simp only [Sh_setI, Sm_setI, Sh_setL, Sm_setL]; assumption) | omega)) only [w2, B_175_101, B_175_105 T5, e6, B_175_109 S6, g47, t0, B_175_116, B_175_121, bI_True, bI_False, p_max, p_min, p_abs, Option.bind_some, Option.bind_none, Option.toList_some, Option.toList_none, List.cons_append, List.nil_append, bI_eq0, bI_ne0, bI_ne1, bI_eq1, bI_01, eq_self, true_or, or_true, and_true, true_and, false_and, and_false, false_or, or_false, ite_true, ite_false, if_true, if_false, not_true, not_false_iff, Classical.not_not, nem, ite_not, ne_eq]
      · have t0 : ¬ mTk (tkF b sz q2.2.1) = 0 := fun y => z ⟨w1, w2, m0.mp y⟩
        rw [head2]
        simp (decide := true) (disch := (first | assumption | (simp only [Sh_setI, Sm_setI, Sh_setL, Sm_setL]; assumption) | omega)) only [w2, B_175_101, B_175_105 T5, e6, B_175_109 S6, g47, t0, B_175_120, B_175_121, bI_True, bI_False, p_max, p_min, p_abs, Option.bind_some, Option.bind_none, Option.toList_some, Option.toList_none, List.cons_append, List.nil_append, bI_eq0, bI_ne0, bI_ne1, bI_eq1, bI_01, eq_self, true_or, or_true, and_true, true_and, false_and, and_false, false_or, or_false, ite_true, ite_false, if_true, if_false, not_true, not_false_iff, Classical.not_not, nem, ite_not, ne_eq]
    · refine ⟨h5, F6, fun z => absurd z.2.1 w2, fun z => ⟨⟨2, ?_⟩, by rw [if_pos w1]; exact (no5 (by simpa using w2)).1⟩⟩
      rw [head2]
      simp (decide := true) (disch := (first | assumption | (simp only [Sh_setI, Sm_setI, Sh_setL, Sm_setL]; assumption) | omega)) only [w2, B_175_101, bI_True, bI_False, p_max, p_min, p_abs, Option.bind_some, Option.bind_none, Option.toList_some, Option.toList_none, List.cons_append, List.nil_append, bI_eq0, bI_ne0, bI_ne1, bI_eq1, bI_01, eq_self, true_or, or_true, and_true, true_and, false_and, and_false, false_or, or_false, ite_true, ite_false, if_true, if_false, not_true, not_false_iff, Classical.not_not, nem, ite_not, ne_eq]
  · refine ⟨h3, F4, fun z => absurd z.1 w1, fun z => ⟨⟨nI 1, ?_⟩, by rw [if_neg w1]; exact (no3 (by simpa using w1)).1⟩⟩
    rw [head]
    simp (decide := true) (disch := (first | assumption | (simp only [Sh_setI, Sm_setI, Sh_setL, Sm_setL]; assumption) | omega)) only [w1, B_175_26, n_Ole, B_175_31, B_175_101, bI_True, bI_False, p_max, p_min, p_abs, Option.bind_some, Option.bind_none, Option.toList_some, Option.toList_none, List.cons_append, List.nil_append, bI_eq0, bI_ne0, bI_ne1, bI_eq1, bI_01, eq_self, true_or, or_true, and_true, true_and, false_and, and_false, false_or, or_false, ite_true, ite_false, if_true, if_false, not_true, not_false_iff, Classical.not_not, nem, ite_not, ne_eq]
end TXT2
