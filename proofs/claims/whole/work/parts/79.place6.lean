/-! place: the model's hours -/
def Fq (h h' : am_H) : Prop := Fi (fun a => a = 56 ∨ a = 88) h h' ∧ ∀ f, f < 56 → hI h' 56 f = hI h 56 f
theorem Fq.rf {h : am_H} : Fq h h := ⟨Fi.rf, fun _ _ => rfl⟩
theorem Fq.tr {h h' h'' : am_H} (F : Fq h h') (G : Fq h' h'') : Fq h h'' := ⟨F.1.tr G.1, fun f q => (G.2 f q).trans (F.2 f q)⟩
theorem Fq.s8 {h h' : am_H} (F : Fq h h') {i : Nat} {v : Int32} : Fq h (setI h' 88 i v) := ⟨F.1.si (Or.inr rfl), fun f q => by rw [hI_ne (by omega)]; exact F.2 f q⟩
theorem Fq.s5 {h h' : am_H} (F : Fq h h') {i : Nat} {v : Int32} (w : 56 ≤ i) : Fq h (setI h' 56 i v) := ⟨F.1.si (Or.inl rfl), fun f q => by rw [hI_eq, if_neg (by omega)]; exact F.2 f q⟩
theorem Fq.km {h h' : am_H} (F : Fq h h') : Km h h' := ⟨F.1.1, F.1.2.1, F.1.2.2.1, F.1.2.2.2.1, F.1.2.2.2.2.1, fun n j q => by
  by_cases w : n = 56
  · subst w
    exact F.2 j (by simp [scrM] at q; omega)
  · have : n ≠ 88 := by
      rintro rfl
      simp [scrM] at q
    rw [F.1.2.2.2.2.2 n (by omega)]⟩
/-- what a run sees of the model's ints -/
theorem Fq.inv {h h' : am_H} (F : Fq h h') (I : Inv (hI h)) : Inv (hI h') ∧ (∀ n, 57 ≤ n → n ≤ 84 → hI h' n = hI h n) ∧ ∀ f, f < 56 → hI h' 56 f = hI h 56 f :=
  ⟨Inv_cg (fun n q1 q2 => F.1.2.2.2.2.2 n (by omega)) (fun f q => F.2 f (by omega)) I, fun n q1 q2 => F.1.2.2.2.2.2 n (by omega), F.2⟩
section PLACE6
variable {d : Nat} {h : am_H}
theorem m_insL {a1 a2 a3 a4 a5 a6 v : Int32} : ∀ (j : Nat) (od : am_F) (h' : am_H), Sm h' → j < 40 → ∃ h1, Ev (d + 4) 194 108 [vr (some 56), vi a1, vi a2, vi a3, vi a4, vi a5, vi a6, vi v, vi (nI j)] [] h' = Ev (d + 4) 194 158 [vr (some 56), vi a1, vi a2, vi a3, vi a4, vi a5, vi a6, vi v, vi (nI (insG od (hI h' 88) v j).1)] [] h1 ∧ Fi (fun a => a = 88) h' h1 ∧ hI h1 88 = (insG od (hI h' 88) v j).2.2 := by
  intro j
  induction j with
  | zero =>
    intro od h' T' hj
    refine ⟨h', ?_, Fi.rf, rfl⟩
    rw [B_194_108]
    simp (decide := true) (disch := (first | assumption | (simp only [Sh_setI, Sm_setI, Sh_setL, Sm_setL]; assumption) | omega)) only [n_leO, insG, bI_True, bI_False, p_max, p_min, p_abs, Option.bind_some, Option.bind_none, Option.toList_some, Option.toList_none, List.cons_append, List.nil_append, bI_eq0, bI_ne0, bI_ne1, bI_eq1, bI_01, eq_self, true_or, or_true, and_true, true_and, false_and, and_false, false_or, or_false, ite_true, ite_false, if_true, if_false, not_true, not_false_iff, Classical.not_not, nem, ite_not, ne_eq]
  | succ j ih =>
    intro od h' T' hj
    have k88 : hkd h' 88 = 100 := T'.kd (n := 88) (k := 100) rfl rfl
    have l88 : hln h' 88 = 40 := T'.ln (n := 88) (k := 40) rfl rfl
    by_cases g : hI h' 88 j ≤ v
    · refine ⟨h', ?_, Fi.rf, by rw [insG, if_pos g]⟩
      rw [B_194_108, insG, if_pos g]
      simp (decide := true) (disch := (first | assumption | (simp only [Sh_setI, Sm_setI, Sh_setL, Sm_setL]; assumption) | omega)) only [n_leO, show ¬ j + 1 ≤ 0 by omega, B_194_113 T', B_194_122, B_194_130, k88, l88, n_subO, Nat.le_add_left, Nat.add_sub_cancel, n_ix, n_cl, g, bI_True, bI_False, p_max, p_min, p_abs, Option.bind_some, Option.bind_none, Option.toList_some, Option.toList_none, List.cons_append, List.nil_append, bI_eq0, bI_ne0, bI_ne1, bI_eq1, bI_01, eq_self, true_or, or_true, and_true, true_and, false_and, and_false, false_or, or_false, ite_true, ite_false, if_true, if_false, not_true, not_false_iff, Classical.not_not, nem, ite_not, ne_eq]
    · obtain ⟨h1, e1, F1, o2⟩ := ih (ups od (j + 1) (od j)) (setI h' 88 (j + 1) (hI h' 88 j)) T'.si (by omega)
      rw [ups_h] at e1 o2
      refine ⟨h1, ?_, Fi.tr (Fi.si Fi.rf rfl) F1, by rw [insG, if_neg g]; exact o2⟩
      rw [B_194_108, insG, if_neg g]
      simp (decide := true) (disch := (first | assumption | (simp only [Sh_setI, Sm_setI, Sh_setL, Sm_setL]; assumption) | omega)) only [n_leO, show ¬ j + 1 ≤ 0 by omega, B_194_113 T', B_194_122, B_194_130, k88, l88, n_subO, Nat.le_add_left, Nat.add_sub_cancel, n_ix, n_cl, g, B_194_136 T', n_pm1, bI_True, bI_False, p_max, p_min, p_abs, Option.bind_some, Option.bind_none, Option.toList_some, Option.toList_none, List.cons_append, List.nil_append, bI_eq0, bI_ne0, bI_ne1, bI_eq1, bI_01, eq_self, true_or, or_true, and_true, true_and, false_and, and_false, false_or, or_false, ite_true, ite_false, if_true, if_false, not_true, not_false_iff, Classical.not_not, nem, ite_not, ne_eq]
      exact e1
theorem m_hours (T : Sm h) (I : Inv (hI h)) {s p i : Nat} {v : Int32} (hs6 : s < 6) (hp : p < 360) (hi : i < 5) : ∃ h1, Cl (d + 13) 194 [vr (some 56), vi (nI s), vi v, vi (nI p), vi (nI (20 * i))] h = some (some (vi (bI (okP (hI h) (LF (hI h) s v (yC (hI h))) p i = true))), h1) ∧ Fq h h1 ∧ (∀ f, f ≠ 56 → hI h1 56 f = hI h 56 f) ∧ (okP (hI h) (LF (hI h) s v (yC (hI h))) p i = true → hI h1 56 56 = nI (LF (hI h) s v (yC (hI h))).length ∧ ∀ k, k < (LF (hI h) s v (yC (hI h))).length → hI h1 88 k = (slP (hI h) v (LF (hI h) s v (yC (hI h))) p i).getD k 0) := by
  have q2 : hI h 56 12 = nI (yC (hI h)) := I.2.2.2.1.1.1
  have q3 : yC (hI h) ≤ 40 := I.2.2.2.1.1.2
  have go : ∀ (j c : Nat) (h' : am_H) (a6 a7 a8 : am_V), c + j = yC (hI h) → Fq h h' → (∀ f, f ≠ 56 → hI h' 56 f = hI h 56 f) → hI h' 56 56 = nI (LF (hI h) s v c).length → srtd (hI h' 88) (LF (hI h) s v c).length → List.Perm (hlL (hI h' 88) (LF (hI h) s v c).length) ((LF (hI h) s v c).map (hrF (hI h) v p i)) → (∀ x, x ∈ LF (hI h) s v c → ¬ dueP (hI h) p i x = -1) → ∃ h1 r, Ev (d + 13) 194 8 [vr (some 56), vi (nI s), vi v, vi (nI p), vi (nI (20 * i)), vi (nI c), a6, a7, a8] [] h' = some (some (vi r), h1) ∧ Fq h h1 ∧ (∀ f, f ≠ 56 → hI h1 56 f = hI h 56 f) ∧ ((r = 0 ∧ ∃ x, x ∈ LF (hI h) s v (yC (hI h)) ∧ dueP (hI h) p i x = -1) ∨ ((∀ x, x ∈ LF (hI h) s v (yC (hI h)) → ¬ dueP (hI h) p i x = -1) ∧ r = bI (¬ (LF (hI h) s v (yC (hI h))).length = 0) ∧ hI h1 56 56 = nI (LF (hI h) s v (yC (hI h))).length ∧ srtd (hI h1 88) (LF (hI h) s v (yC (hI h))).length ∧ List.Perm (hlL (hI h1 88) (LF (hI h) s v (yC (hI h))).length) ((LF (hI h) s v (yC (hI h))).map (hrF (hI h) v p i)))) := by
    intro j
    induction j with
    | zero =>
      intro c h' a6 a7 a8 e F f56 n56 sr pm dd
      have T' := F.1.sm T
      have : c = yC (hI h) := by omega
      subst this
      have ln := (LF_le (m := hI h) (s := s) (v := v) (yC (hI h))).1
      refine ⟨h', _, ?_, F, f56, Or.inr ⟨dd, rfl, n56, sr, pm⟩⟩
      rw [B_194_8 T', f56 12 (by omega), q2]
      by_cases z : (LF (hI h) s v (yC (hI h))).length = 0
      · simp (decide := true) (disch := (first | assumption | (simp only [Sh_setI, Sm_setI, Sh_setL, Sm_setL]; assumption) | omega)) only [n_le, Nat.le_refl, B_194_183 T', n56, n_leO, z, B_194_194, B_194_195, bI_True, bI_False, p_max, p_min, p_abs, Option.bind_some, Option.bind_none, Option.toList_some, Option.toList_none, List.cons_append, List.nil_append, bI_eq0, bI_ne0, bI_ne1, bI_eq1, bI_01, eq_self, true_or, or_true, and_true, true_and, false_and, and_false, false_or, or_false, ite_true, ite_false, if_true, if_false, not_true, not_false_iff, Classical.not_not, nem, ite_not, ne_eq]
      · simp (decide := true) (disch := (first | assumption | (simp only [Sh_setI, Sm_setI, Sh_setL, Sm_setL]; assumption) | omega)) only [n_le, Nat.le_refl, B_194_183 T', n56, n_leO, show ¬ (LF (hI h) s v (yC (hI h))).length ≤ 0 by omega, z, B_194_190, B_194_195, bI_True, bI_False, p_max, p_min, p_abs, Option.bind_some, Option.bind_none, Option.toList_some, Option.toList_none, List.cons_append, List.nil_append, bI_eq0, bI_ne0, bI_ne1, bI_eq1, bI_01, eq_self, true_or, or_true, and_true, true_and, false_and, and_false, false_or, or_false, ite_true, ite_false, if_true, if_false, not_true, not_false_iff, Classical.not_not, nem, ite_not, ne_eq]
    | succ j ih =>
      intro c h' a6 a7 a8 e F f56 n56 sr pm dd
      have T' := F.1.sm T
      obtain ⟨I', e1, e2⟩ := F.inv I
      have hc : c < yC (hI h) := by omega
      have hc40 : c < 40 := by omega
      have J := card_int I hc
      obtain ⟨kd, hkd', ekd⟩ := J.1
      obtain ⟨pd, hpd, epd⟩ := J.2.2.2.1
      have dr8 := J.2.1
      have ln := (LF_le (m := hI h) (s := s) (v := v) c).1
      have ekd2 : cl (hI h 65 c) = kd := by rw [ekd, cl, n_cl (by omega)]
      have epd2 : cl (hI h 59 (yDr (hI h) c)) = pd := by rw [epd, cl, n_cl (by omega)]
      have a180 := apN_le hp hpd
      have mh : ∀ d, Cl (d + 4) 195 [vr (some 56), vi (nI c), vi v] h' = some (some (vi (bI (heardB (hI h) c v = true))), h') := fun d => by
        rw [m_isHeard T' hc40]
        unfold heardB
        rw [e1 72 (by omega) (by omega), e1 69 (by omega) (by omega)]
      have mt : ∀ d, Cl (d + 4) 169 [vr (some 56), vi (nI c), vi v] h' = some (some (vi (timeF (hI h) c v)), h') := fun d => by
        rw [m_timeOf T' hc40]
        unfold timeF
        rw [e1 71 (by omega) (by omega), e1 70 (by omega) (by omega), e1 68 (by omega) (by omega)]
      have md : ∀ d, Cl (d + 6) 151 [vr (some 56), vi (nI kd), vi (nI (apN p pd)), vi (nI (20 * i))] h' = some (some (vi (dueP (hI h) p i c)), h') := fun d => by
        rw [m_dueOf T' (n := yN (hI h)) (by rw [f56 1 (by omega)]; exact I.1.2.1.1) (by rw [e1 57 (by omega) (by omega), e1 58 (by omega) (by omega)]; exact I.1.2.2) a180 (by omega) hkd']
        unfold dueP dueM
        rw [ekd2, epd2, e1 57 (by omega) (by omega), e1 58 (by omega) (by omega)]
      have c67 : hI h' 67 c = hI h 67 c := by rw [e1 67 (by omega) (by omega)]
      have c66 : hI h' 66 c = nI (yDr (hI h) c) := by rw [e1 66 (by omega) (by omega)]; exact dr8.1
      have c65 : hI h' 65 c = nI kd := by rw [e1 65 (by omega) (by omega)]; exact ekd
      have c59 : hI h' 59 (yDr (hI h) c) = nI pd := by rw [e1 59 (by omega) (by omega)]; exact epd
      have c60 : hI h' 60 (yDr (hI h) c) = hI h 60 (yDr (hI h) c) := by rw [e1 60 (by omega) (by omega)]
      have ap := fun d => m_apart (d := d) (h := h') hp hpd
      have k56 : hkd h' 56 = 11 := T'.kd (n := 56) (k := 11) rfl rfl
      by_cases g : hI h 67 c = nI s ∧ heardB (hI h) c v = true
      · have el : LF (hI h) s v (c + 1) = LF (hI h) s v c ++ [c] := by rw [LF, if_pos g]
        have head : Ev (d + 13) 194 8 [vr (some 56), vi (nI s), vi v, vi (nI p), vi (nI (20 * i)), vi (nI c), a6, a7, a8] [] h' = Ev (d + 13) 194 67 [vr (some 56), vi (nI s), vi v, vi (nI p), vi (nI (20 * i)), vi (nI c), a6, a7, a8] [vi (dueP (hI h) p i c)] h' := by
          rw [B_194_8 T', f56 12 (by omega), q2]
          simp (decide := true) (disch := (first | assumption | (simp only [Sh_setI, Sm_setI, Sh_setL, Sm_setL]; assumption) | omega)) only [n_le, show ¬ yC (hI h) ≤ c by omega, B_194_17 T', n_ix, n_cl, c67, g.1, B_194_28 T', mh, g.2, B_194_35, B_194_38 T', c66, c65, c59, ap, B_194_62, k56, md, bI_True, bI_False, p_max, p_min, p_abs, Option.bind_some, Option.bind_none, Option.toList_some, Option.toList_none, List.cons_append, List.nil_append, bI_eq0, bI_ne0, bI_ne1, bI_eq1, bI_01, eq_self, true_or, or_true, and_true, true_and, false_and, and_false, false_or, or_false, ite_true, ite_false, if_true, if_false, not_true, not_false_iff, Classical.not_not, nem, ite_not, ne_eq]
        by_cases w : dueP (hI h) p i c = -1
        · have mem : ∀ n, c < n → n ≤ yC (hI h) → c ∈ LF (hI h) s v n := by
            intro n
            induction n with
            | zero => intro h1; omega
            | succ n ihn =>
              intro h1 h2
              by_cases z : n = c
              · rw [z, el]; exact List.mem_append_right _ (by simp)
              · rw [LF]
                split
                · exact List.mem_append_left _ (ihn (by omega) (by omega))
                · exact ihn (by omega) (by omega)
          refine ⟨h', 0, ?_, F, f56, Or.inl ⟨rfl, c, mem _ hc (Nat.le_refl _), w⟩⟩
          rw [head]
          simp (decide := true) (disch := (first | assumption | (simp only [Sh_setI, Sm_setI, Sh_setL, Sm_setL]; assumption) | omega)) only [B_194_67, w, B_194_75, bI_True, bI_False, p_max, p_min, p_abs, Option.bind_some, Option.bind_none, Option.toList_some, Option.toList_none, List.cons_append, List.nil_append, bI_eq0, bI_ne0, bI_ne1, bI_eq1, bI_01, eq_self, true_or, or_true, and_true, true_and, false_and, and_false, false_or, or_false, ite_true, ite_false, if_true, if_false, not_true, not_false_iff, Classical.not_not, nem, ite_not, ne_eq]
        · obtain ⟨h1, e3, F1, o1⟩ := m_insL (d := d + 9) (a1 := nI s) (a2 := v) (a3 := nI p) (a4 := nI (20 * i)) (a5 := nI c) (a6 := dueP (hI h) p i c) (v := hrF (hI h) v p i c) (LF (hI h) s v c).length (fun _ => 0) h' T' (by omega)
          have T1 := F1.sm T'
          obtain ⟨r1, r2, r3, r4⟩ := ins_ok (c := 0) (v := hrF (hI h) v p i c) (Nat.lt_succ_self (LF (hI h) s v c).length) (LF (hI h) s v c).length (fun _ => 0) (hI h' 88) (Nat.le_refl _) (fun a b hab hb ha hb2 => sr a b hab (by omega)) (fun b h1 h2 => by omega)
          have r3' := (pl_hl r3).1
          rw [← o1] at r2 r3'
          generalize (insG (fun _ => 0) (hI h' 88) (hrF (hI h) v p i c) (LF (hI h) s v c).length).1 = z at *
          have u8 : hI (setI (setI h1 88 z (hrF (hI h) v p i c)) 56 56 (nI ((LF (hI h) s v c).length + 1))) 88 = ups (hI h1 88) z (hrF (hI h) v p i c) := by rw [hI_ne (by omega), ups_h]
          have n561 : hI h1 56 56 = nI (LF (hI h) s v c).length := by rw [F1.2.2.2.2.2 56 (by omega)]; exact n56
          obtain ⟨h2, r, e4, F2, r5⟩ := ih (c + 1) (setI (setI h1 88 z (hrF (hI h) v p i c)) 56 56 (nI ((LF (hI h) s v c).length + 1))) (vi (dueP (hI h) p i c)) (vi (hrF (hI h) v p i c)) (vi (nI z)) (by omega) (Fq.s5 (Fq.s8 (F.tr ⟨F1.mono (fun n q => Or.inr q), fun f _ => by rw [F1.2.2.2.2.2 56 (by omega)]⟩)) (by omega)) (fun f q => by rw [hI_eq, if_neg q, hI_ne (by omega), F1.2.2.2.2.2 56 (by omega)]; exact f56 f q) (by rw [hI_eq, if_pos rfl, el, List.length_append]; rfl) (by rw [u8, el, List.length_append]; exact r2) (by
            rw [u8, el, List.length_append, List.map_append]
            refine r3'.trans ?_
            rw [hlL_succ, ups_s, if_pos rfl, hlL_cg (ho := hI h' 88) (fun k hk => by rw [ups_s, if_neg (by omega)])]
            exact List.Perm.append_right _ pm) (fun x hx => by
            rw [el] at hx
            rcases List.mem_append.mp hx with q | q
            · exact dd x q
            · have : x = c := by simpa using q
              rw [this]; exact w)
          refine ⟨h2, r, ?_, F2, r5⟩
          rw [head]
          simp (decide := true) (disch := (first | assumption | (simp only [Sh_setI, Sm_setI, Sh_setL, Sm_setL]; assumption) | omega)) only [B_194_67, w, B_194_77 T', mt, B_194_84 T', n_ix, n_cl, c66, c60, n56, bI_True, bI_False, p_max, p_min, p_abs, Option.bind_some, Option.bind_none, Option.toList_some, Option.toList_none, List.cons_append, List.nil_append, bI_eq0, bI_ne0, bI_ne1, bI_eq1, bI_01, eq_self, true_or, or_true, and_true, true_and, false_and, and_false, false_or, or_false, ite_true, ite_false, if_true, if_false, not_true, not_false_iff, Classical.not_not, nem, ite_not, ne_eq]
          refine e3.trans ?_
          simp (decide := true) (disch := (first | assumption | (simp only [Sh_setI, Sm_setI, Sh_setL, Sm_setL]; assumption) | omega)) only [B_194_158 T1, n_ix, n_cl, hI_ne, n561, n_addO, B_194_177, bI_True, bI_False, p_max, p_min, p_abs, Option.bind_some, Option.bind_none, Option.toList_some, Option.toList_none, List.cons_append, List.nil_append, bI_eq0, bI_ne0, bI_ne1, bI_eq1, bI_01, eq_self, true_or, or_true, and_true, true_and, false_and, and_false, false_or, or_false, ite_true, ite_false, if_true, if_false, not_true, not_false_iff, Classical.not_not, nem, ite_not, ne_eq]
          exact e4
      · have el : LF (hI h) s v (c + 1) = LF (hI h) s v c := by rw [LF, if_neg g]
        obtain ⟨h2, r, e4, F2, r5⟩ := ih (c + 1) h' a6 a7 a8 (by omega) F f56 (by rw [el]; exact n56) (by rw [el]; exact sr) (by rw [el]; exact pm) (by rw [el]; exact dd)
        refine ⟨h2, r, ?_, F2, r5⟩
        rw [B_194_8 T', f56 12 (by omega), q2]
        by_cases g1 : hI h 67 c = nI s
        · have g2 : ¬ heardB (hI h) c v = true := fun w => g ⟨g1, w⟩
          simp (decide := true) (disch := (first | assumption | (simp only [Sh_setI, Sm_setI, Sh_setL, Sm_setL]; assumption) | omega)) only [n_le, show ¬ yC (hI h) ≤ c by omega, B_194_17 T', n_ix, n_cl, c67, g1, B_194_28 T', mh, g2, B_194_35, B_194_177, n_addO, bI_True, bI_False, p_max, p_min, p_abs, Option.bind_some, Option.bind_none, Option.toList_some, Option.toList_none, List.cons_append, List.nil_append, bI_eq0, bI_ne0, bI_ne1, bI_eq1, bI_01, eq_self, true_or, or_true, and_true, true_and, false_and, and_false, false_or, or_false, ite_true, ite_false, if_true, if_false, not_true, not_false_iff, Classical.not_not, nem, ite_not, ne_eq]
          exact e4
        · simp (decide := true) (disch := (first | assumption | (simp only [Sh_setI, Sm_setI, Sh_setL, Sm_setL]; assumption) | omega)) only [n_le, show ¬ yC (hI h) ≤ c by omega, B_194_17 T', n_ix, n_cl, c67, g1, B_194_177, n_addO, bI_True, bI_False, p_max, p_min, p_abs, Option.bind_some, Option.bind_none, Option.toList_some, Option.toList_none, List.cons_append, List.nil_append, bI_eq0, bI_ne0, bI_ne1, bI_eq1, bI_01, eq_self, true_or, or_true, and_true, true_and, false_and, and_false, false_or, or_false, ite_true, ite_false, if_true, if_false, not_true, not_false_iff, Classical.not_not, nem, ite_not, ne_eq]
          exact e4
  obtain ⟨h1, r, e1, F1, f56, v1⟩ := go (yC (hI h)) 0 (setI h 56 56 0) vu vu vu (by omega) (Fq.rf.s5 (by omega)) (fun f q => by rw [hI_eq, if_neg q]) (by rw [hI_eq, if_pos rfl]; rfl) (fun a b _ hb => absurd hb (by simp [LF])) (List.Perm.refl _) (fun x hx => absurd hx (by simp [LF]))
  have ln := (LF_le (m := hI h) (s := s) (v := v) (yC (hI h))).1
  generalize LF (hI h) s v (yC (hI h)) = L at *
  have run : Cl (d + 13) 194 [vr (some 56), vi (nI s), vi v, vi (nI p), vi (nI (20 * i))] h = some (some (vi r), h1) := by
    rw [E_194, B_194_0 T]
    exact e1
  rcases v1 with ⟨rz, x, hx, ex⟩ | ⟨al, rz, n56, sr, pm⟩
  · have no : ¬ okP (hI h) L p i = true := by
      unfold okP allOk
      intro w
      rw [Bool.and_eq_true, List.all_eq_true] at w
      have := w.2 x hx
      rw [ex] at this
      exact absurd this (by decide)
    refine ⟨h1, ?_, F1, f56, fun w => absurd w no⟩
    rw [run, rz, bI_F no]
  · by_cases z : L.length = 0
    · have L0 : L = [] := List.eq_nil_of_length_eq_zero z
      have no : ¬ okP (hI h) L p i = true := by
        rw [L0]
        exact fun w => absurd w (by simp [okP])
      refine ⟨h1, ?_, F1, f56, fun w => absurd w no⟩
      rw [run, rz, bI_F no, bI_F (fun w => w z)]
    · have ok : okP (hI h) L p i = true := by
        unfold okP allOk
        rw [Bool.and_eq_true, List.all_eq_true]
        refine ⟨?_, fun x hx => by simp [al x hx]⟩
        cases L with
        | nil => exact absurd rfl z
        | cons _ _ => rfl
      refine ⟨h1, ?_, F1, f56, fun _ => ⟨n56, fun k hk => sort_at sr pm k hk⟩⟩
      rw [run, rz, bI_T ok, bI_T z]
end PLACE6
