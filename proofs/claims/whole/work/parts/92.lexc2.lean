/-! text: tokens of bytes, the class -/
theorem Bt.fi {b : Nat → Nat} {sz : Nat} {h h' : am_H} (H : Bt b sz h) (F : Fi (fun a => a = 13 ∨ a = 14 ∨ a = 15) h h') : Bt b sz h' := ⟨H.1, by rw [F.2.2.2.2.2 11 (by omega)]; exact H.2.1, fun k hk => by rw [F.2.2.2.2.2 12 (by omega)]; exact H.2.2 k hk⟩
section LEXC2
variable {d : Nat} {h : am_H}
theorem sg_ix {c : Nat} : (∃ q, q < 8 ∧ sgl.getD q 0 = c) ↔ (c = 40 ∨ c = 41 ∨ c = 59 ∨ c = 43 ∨ c = 45 ∨ c = 42 ∨ c = 60 ∨ c = 61) := by
  constructor
  · rintro ⟨q, hq, e⟩
    rcases (by omega : q = 0 ∨ q = 1 ∨ q = 2 ∨ q = 3 ∨ q = 4 ∨ q = 5 ∨ q = 6 ∨ q = 7) with rfl | rfl | rfl | rfl | rfl | rfl | rfl | rfl
    · exact Or.inl e.symm
    · exact Or.inr (Or.inl e.symm)
    · exact Or.inr (Or.inr (Or.inl e.symm))
    · exact Or.inr (Or.inr (Or.inr (Or.inl e.symm)))
    · exact Or.inr (Or.inr (Or.inr (Or.inr (Or.inl e.symm))))
    · exact Or.inr (Or.inr (Or.inr (Or.inr (Or.inr (Or.inl e.symm)))))
    · exact Or.inr (Or.inr (Or.inr (Or.inr (Or.inr (Or.inr (Or.inl e.symm))))))
    · exact Or.inr (Or.inr (Or.inr (Or.inr (Or.inr (Or.inr (Or.inr e.symm))))))
  · rintro (rfl | rfl | rfl | rfl | rfl | rfl | rfl | rfl)
    · exact ⟨0, by decide, rfl⟩
    · exact ⟨1, by decide, rfl⟩
    · exact ⟨2, by decide, rfl⟩
    · exact ⟨3, by decide, rfl⟩
    · exact ⟨4, by decide, rfl⟩
    · exact ⟨5, by decide, rfl⟩
    · exact ⟨6, by decide, rfl⟩
    · exact ⟨7, by decide, rfl⟩
theorem c_tokenIn (S : Sh h) (L : Ls h) {b : Nat → Nat} {sz : Nat} (H : Bt b sz h) {fr to : Nat} (hf : fr < to) (ht : to ≤ sz) : Cl (d + 28) 16 [vr (some 11), vi (nI fr), vi (nI to)] h = some (some (vi (nI (tokF b fr to))), h) := by
  obtain ⟨h160, q1, q2⟩ := id H
  obtain ⟨f1, f2⟩ := q2 fr (by omega)
  have l1 := fun d => c_isLetter (d := d) (h := h) f1
  have g1 := fun d => c_isDigit (d := d) (h := h) f1
  unfold tokF
  by_cases a : isLt (b fr) = true
  · rw [if_pos a]
    have ew : ∀ d, Cl (d + 20) 17 [vr (some 11), vi (nI fr), vi (nI to)] h = some (some (vi (nI (wix (wsF b fr to) wds 128))), h) := fun d => by
      rw [E_17, B_17_0]
      exact c_wordIn S L H (by omega) ht 11 0 rfl
    simp (decide := true) (disch := (first | assumption | (simp only [Sh_setI, Sm_setI, Sh_setL, Sm_setL]; assumption) | omega)) only [E_16, B_16_0 S, n_ix, n_cl, f2, l1, a, B_16_11, B_16_14 S, ew, B_16_20, bI_True, bI_False, p_max, p_min, p_abs, Option.bind_some, Option.bind_none, Option.toList_some, Option.toList_none, List.cons_append, List.nil_append, bI_eq0, bI_ne0, bI_ne1, bI_eq1, bI_01, eq_self, true_or, or_true, and_true, true_and, false_and, and_false, false_or, or_false, ite_true, ite_false, if_true, if_false, not_true, not_false_iff, Classical.not_not, nem, ite_not, ne_eq]
  · rw [if_neg a]
    by_cases g : isDg (b fr) = true
    · rw [if_pos g]
      by_cases q : to - fr ≤ 4
      · rw [if_pos q]
        simp (decide := true) (disch := (first | assumption | (simp only [Sh_setI, Sm_setI, Sh_setL, Sm_setL]; assumption) | omega)) only [E_16, B_16_0 S, n_ix, n_cl, f2, l1, a, B_16_11, B_16_21, g1, g, B_16_25, B_16_28, n_sub, n_leO, q, B_16_39, B_16_40, bI_True, bI_False, p_max, p_min, p_abs, Option.bind_some, Option.bind_none, Option.toList_some, Option.toList_none, List.cons_append, List.nil_append, bI_eq0, bI_ne0, bI_ne1, bI_eq1, bI_01, eq_self, true_or, or_true, and_true, true_and, false_and, and_false, false_or, or_false, ite_true, ite_false, if_true, if_false, not_true, not_false_iff, Classical.not_not, nem, ite_not, ne_eq]
        rfl
      · rw [if_neg q]
        simp (decide := true) (disch := (first | assumption | (simp only [Sh_setI, Sm_setI, Sh_setL, Sm_setL]; assumption) | omega)) only [E_16, B_16_0 S, n_ix, n_cl, f2, l1, a, B_16_11, B_16_21, g1, g, B_16_25, B_16_28, n_sub, n_leO, q, B_16_35, B_16_40, bI_True, bI_False, p_max, p_min, p_abs, Option.bind_some, Option.bind_none, Option.toList_some, Option.toList_none, List.cons_append, List.nil_append, bI_eq0, bI_ne0, bI_ne1, bI_eq1, bI_01, eq_self, true_or, or_true, and_true, true_and, false_and, and_false, false_or, or_false, ite_true, ite_false, if_true, if_false, not_true, not_false_iff, Classical.not_not, nem, ite_not, ne_eq]
        rfl
    · rw [if_neg g]
      obtain ⟨x, e1, e2⟩ := c_signIx S L f1
      have ch := ch_c (b fr) f1
      unfold sgC
      by_cases s : b fr = 40 ∨ b fr = 41 ∨ b fr = 59 ∨ b fr = 43 ∨ b fr = 45 ∨ b fr = 42 ∨ b fr = 60 ∨ b fr = 61
      · rw [if_pos s]
        have nx : ¬ x < 0 := fun w => e2.mp w (sg_ix.mpr s)
        simp (decide := true) (disch := (first | assumption | (simp only [Sh_setI, Sm_setI, Sh_setL, Sm_setL]; assumption) | omega)) only [E_16, B_16_0 S, n_ix, n_cl, f2, l1, a, B_16_11, B_16_21, g1, g, B_16_25, B_16_41 S, ch, e1, B_16_48, nx, B_16_51, B_16_56, bI_True, bI_False, p_max, p_min, p_abs, Option.bind_some, Option.bind_none, Option.toList_some, Option.toList_none, List.cons_append, List.nil_append, bI_eq0, bI_ne0, bI_ne1, bI_eq1, bI_01, eq_self, true_or, or_true, and_true, true_and, false_and, and_false, false_or, or_false, ite_true, ite_false, if_true, if_false, not_true, not_false_iff, Classical.not_not, nem, ite_not, ne_eq]
      · rw [if_neg s]
        have nx : x < 0 := e2.mpr (fun w => s (sg_ix.mp w))
        simp (decide := true) (disch := (first | assumption | (simp only [Sh_setI, Sm_setI, Sh_setL, Sm_setL]; assumption) | omega)) only [E_16, B_16_0 S, n_ix, n_cl, f2, l1, a, B_16_11, B_16_21, g1, g, B_16_25, B_16_41 S, ch, e1, B_16_48, nx, B_16_55, B_16_56, bI_True, bI_False, p_max, p_min, p_abs, Option.bind_some, Option.bind_none, Option.toList_some, Option.toList_none, List.cons_append, List.nil_append, bI_eq0, bI_ne0, bI_ne1, bI_eq1, bI_01, eq_self, true_or, or_true, and_true, true_and, false_and, and_false, false_or, or_false, ite_true, ite_false, if_true, if_false, not_true, not_false_iff, Classical.not_not, nem, ite_not, ne_eq]
        rfl
theorem c_split (S : Sh h) (L : Ls h) {b : Nat → Nat} {sz N : Nat} (H : Bt b sz h) (hN : N ≤ sz) (n1 : ∀ k, k < N → stF b sz k < sz) (n2 : ¬ stF b sz N < sz) : ∃ h1, Cl (d + 32) 10 [vr (some 11)] h = some (none, h1) ∧ Fi (fun a => a = 13 ∨ a = 14 ∨ a = 15) h h1 ∧ Tk (tkF b sz) (vlF b sz) N h1 ∧ ∀ k, k ≤ N → hI h1 14 k = nI (stF b sz k) := by
  obtain ⟨h160, q1, q2⟩ := id H
  have stN : stF b sz N = sz := by have := st_le (b := b) (sz := sz) N; omega
  have go : ∀ (j k : Nat) (h' : am_H) (a4 : am_V), k + j = N → Fi (fun a => a = 13 ∨ a = 14 ∨ a = 15) h h' → (∀ q, q < k → hI h' 13 q = nI (tkF b sz q) ∧ (tkF b sz q = 1 → hI h' 15 q = nI (vlF b sz q)) ∧ hI h' 14 q = nI (stF b sz q)) → ∃ h1, Ev (d + 32) 10 10 [vr (some 11), vi (nI k), vi (nI (stF b sz k)), vi (nI k), a4] [] h' = some (none, h1) ∧ Fi (fun a => a = 13 ∨ a = 14 ∨ a = 15) h h1 ∧ Tk (tkF b sz) (vlF b sz) N h1 ∧ ∀ k, k ≤ N → hI h1 14 k = nI (stF b sz k) := by
    intro j
    induction j with
    | zero =>
      intro k h' a4 e F v
      have S' := F.sh S
      have : k = N := by omega
      subst this
      have q1' : hI h' 11 1 = nI sz := by rw [F.2.2.2.2.2 11 (by omega)]; exact q1
      have t0 : tkF b sz k = 0 := by unfold tkF; rw [if_neg n2]
      refine ⟨setI (setI h' 14 k (nI sz)) 13 k 0, ?_, (F.si (Or.inr (Or.inl rfl))).si (Or.inl rfl), fun q hq => ?_, fun q hq => ?_⟩
      · have tail : Ev (d + 32) 10 97 [vr (some 11), vi (nI k), vi (nI (stF b sz k)), vi (nI k), a4] [] h' = some (none, setI (setI h' 14 k (nI sz)) 13 k 0) := by
          simp (decide := true) (disch := (first | assumption | (simp only [Sh_setI, Sm_setI, Sh_setL, Sm_setL]; assumption) | omega)) only [B_10_97 S', n_ix, n_cl, q1', B_10_114, bI_True, bI_False, p_max, p_min, p_abs, Option.bind_some, Option.bind_none, Option.toList_some, Option.toList_none, List.cons_append, List.nil_append, bI_eq0, bI_ne0, bI_ne1, bI_eq1, bI_01, eq_self, true_or, or_true, and_true, true_and, false_and, and_false, false_or, or_false, ite_true, ite_false, if_true, if_false, not_true, not_false_iff, Classical.not_not, nem, ite_not, ne_eq]
        rw [B_10_10]
        by_cases k6 : 160 ≤ k
        · simp (decide := true) (disch := (first | assumption | (simp only [Sh_setI, Sm_setI, Sh_setL, Sm_setL]; assumption) | omega)) only [n_Ole, k6, bI_True, bI_False, p_max, p_min, p_abs, Option.bind_some, Option.bind_none, Option.toList_some, Option.toList_none, List.cons_append, List.nil_append, bI_eq0, bI_ne0, bI_ne1, bI_eq1, bI_01, eq_self, true_or, or_true, and_true, true_and, false_and, and_false, false_or, or_false, ite_true, ite_false, if_true, if_false, not_true, not_false_iff, Classical.not_not, nem, ite_not, ne_eq]
          exact tail
        · simp (decide := true) (disch := (first | assumption | (simp only [Sh_setI, Sm_setI, Sh_setL, Sm_setL]; assumption) | omega)) only [n_Ole, k6, B_10_17 S', q1', n_le, show sz ≤ stF b sz k by omega, bI_True, bI_False, p_max, p_min, p_abs, Option.bind_some, Option.bind_none, Option.toList_some, Option.toList_none, List.cons_append, List.nil_append, bI_eq0, bI_ne0, bI_ne1, bI_eq1, bI_01, eq_self, true_or, or_true, and_true, true_and, false_and, and_false, false_or, or_false, ite_true, ite_false, if_true, if_false, not_true, not_false_iff, Classical.not_not, nem, ite_not, ne_eq]
          exact tail
      · rw [hI_eq, hI_ne (by omega), hI_ne (by omega), hI_ne (by omega)]
        by_cases z : q = k
        · rw [if_pos z, z, t0]
          exact ⟨rfl, fun w => absurd w (by decide)⟩
        · rw [if_neg z]
          exact ⟨(v q (by omega)).1, (v q (by omega)).2.1⟩
      · rw [hI_ne (by omega), hI_eq]
        by_cases z : q = k
        · rw [if_pos z, z, stN]
        · rw [if_neg z]
          exact (v q (by omega)).2.2
    | succ j ih =>
      intro k h' a4 e F v
      have S' := F.sh S
      have L' : Ls h' := fun i j hi hj => ⟨by rw [F.2.2.2.2.2 _ (by omega)]; exact (L i j hi hj).1, by rw [F.2.2.2.2.2 _ (by omega)]; exact (L i j hi hj).2⟩
      have H' := H.fi F
      have sk := n1 k (by omega)
      obtain ⟨el, eg⟩ := endF_le (b := b) sk
      obtain ⟨f1, f2⟩ := H'.2.2 _ sk
      have ps1 : psF b sz (k + 1) = endF b sz (stF b sz k) := by
        rw [psF]; exact if_pos sk
      have st1 : skF b sz (endF b sz (stF b sz k)) = stF b sz (k + 1) := by unfold stF; rw [ps1]; rfl
      have tk1 : tokF b (stF b sz k) (endF b sz (stF b sz k)) = tkF b sz k := by unfold tkF; rw [if_pos sk]
      have vl1 : valF b (stF b sz k) (endF b sz (stF b sz k)) = vlF b sz k := by unfold vlF; rw [if_pos sk]
      have dgA := fun (g : isDg (b (stF b sz k)) = true) => dg_all (sz := sz) g
      have q1' : hI h' 11 1 = nI sz := H'.2.1
      generalize hfr : stF b sz k = fr at *
      generalize hto : endF b sz fr = to at *
      have cp := fun d => c_pastToken (d := d) S' H' (show fr < sz from sk)
      rw [hto] at cp
      have F1 : Fi (fun a => a = 13 ∨ a = 14 ∨ a = 15) h (setI h' 14 k (nI fr)) := F.si (Or.inr (Or.inl rfl))
      have S1 : Sh (setI h' 14 k (nI fr)) := S'.si
      have H1 := H.fi F1
      have g1 := fun d => c_isDigit (d := d) (h := setI h' 14 k (nI fr)) f1
      have f2' : hI (setI h' 14 k (nI fr)) 12 fr = nI (b fr) := by rw [hI_ne (by omega)]; exact f2
      have k15 : hkd (setI h' 14 k (nI fr)) 15 = 100 := S1.kd (n := 15) (k := 100) rfl rfl
      have l15 : hln (setI h' 14 k (nI fr)) 15 = 161 := S1.ln (n := 15) (k := 161) rfl rfl
      have vex : ∃ vv : Nat, (tkF b sz k = 1 → vv = vlF b sz k) ∧ Ev (d + 32) 10 10 [vr (some 11), vi (nI k), vi (nI fr), vi (nI k), a4] [] h' = Ev (d + 32) 10 67 [vr (some 11), vi (nI k), vi (nI fr), vi (nI k), vi (nI to)] [vi (nI vv), vi (nI k), vr (some 15)] (setI h' 14 k (nI fr)) := by
        have pre : Ev (d + 32) 10 10 [vr (some 11), vi (nI k), vi (nI fr), vi (nI k), a4] [] h' = Ev (d + 32) 10 53 [vr (some 11), vi (nI k), vi (nI fr), vi (nI k), vi (nI to)] [vi (bI (isDg (b fr) = true)), vi (nI k), vr (some 15)] (setI h' 14 k (nI fr)) := by
          rw [B_10_10]
          simp (decide := true) (disch := (first | assumption | (simp only [Sh_setI, Sm_setI, Sh_setL, Sm_setL]; assumption) | omega)) only [n_Ole, show ¬ 160 ≤ k by omega, B_10_17 S', q1', n_le, show ¬ sz ≤ fr by omega, B_10_25 S', cp, B_10_30 S', n_ix, n_cl, f2', g1, bI_True, bI_False, p_max, p_min, p_abs, Option.bind_some, Option.bind_none, Option.toList_some, Option.toList_none, List.cons_append, List.nil_append, bI_eq0, bI_ne0, bI_ne1, bI_eq1, bI_01, eq_self, true_or, or_true, and_true, true_and, false_and, and_false, false_or, or_false, ite_true, ite_false, if_true, if_false, not_true, not_false_iff, Classical.not_not, nem, ite_not, ne_eq]
        by_cases g : isDg (b fr) = true
        · have en := c_numberIn (d := d + 27) S1 H1 (a1 := nI fr) (to := to) eg (to - fr) fr 0 (by omega) (fun q h1 h2 => dgA g q h1 h2)
          refine ⟨numF b (to - fr) fr 0, fun w => ?_, ?_⟩
          · rw [← vl1]
            unfold valF
            have nl : ¬ isLt (b fr) = true := by unfold isLt isDg at *; simp at g ⊢; omega
            have q4 : to - fr ≤ 4 := by
              rw [← tk1] at w
              unfold tokF at w
              rw [if_neg nl, if_pos g] at w
              exact Classical.byContradiction fun z => by rw [if_neg z] at w; exact absurd w (by decide)
            rw [if_pos ⟨g, q4⟩]
          · rw [pre]
            rw [show nI 0 = (0 : Int32) from rfl] at en
            simp (decide := true) (disch := (first | assumption | (simp only [Sh_setI, Sm_setI, Sh_setL, Sm_setL]; assumption) | omega)) only [g, B_10_53, B_10_56 S1, E_15, B_15_0, en, B_10_63, bI_True, bI_False, p_max, p_min, p_abs, Option.bind_some, Option.bind_none, Option.toList_some, Option.toList_none, List.cons_append, List.nil_append, bI_eq0, bI_ne0, bI_ne1, bI_eq1, bI_01, eq_self, true_or, or_true, and_true, true_and, false_and, and_false, false_or, or_false, ite_true, ite_false, if_true, if_false, not_true, not_false_iff, Classical.not_not, nem, ite_not, ne_eq]
        · refine ⟨0, fun w => ?_, ?_⟩
          · exfalso
            rw [← tk1] at w
            unfold tokF at w
            by_cases a : isLt (b fr) = true
            · rw [if_pos a] at w
              rcases wix_ok (wsF b fr to) wds 128 with z | z <;> omega
            · rw [if_neg a, if_neg g] at w
              unfold sgC at w
              split at w <;> omega
          · rw [pre]
            simp (decide := true) (disch := (first | assumption | (simp only [Sh_setI, Sm_setI, Sh_setL, Sm_setL]; assumption) | omega)) only [g, B_10_53, B_10_66, bI_True, bI_False, p_max, p_min, p_abs, Option.bind_some, Option.bind_none, Option.toList_some, Option.toList_none, List.cons_append, List.nil_append, bI_eq0, bI_ne0, bI_ne1, bI_eq1, bI_01, eq_self, true_or, or_true, and_true, true_and, false_and, and_false, false_or, or_false, ite_true, ite_false, if_true, if_false, not_true, not_false_iff, Classical.not_not, nem, ite_not, ne_eq]
            rfl
      obtain ⟨vv, hv, run⟩ := vex
      have F2 : Fi (fun a => a = 13 ∨ a = 14 ∨ a = 15) h (setI (setI h' 14 k (nI fr)) 15 k (nI vv)) := F1.si (Or.inr (Or.inr rfl))
      have S2 : Sh (setI (setI h' 14 k (nI fr)) 15 k (nI vv)) := S1.si
      have L2 : Ls (setI (setI h' 14 k (nI fr)) 15 k (nI vv)) := fun i j hi hj => ⟨by rw [F2.2.2.2.2.2 _ (by omega)]; exact (L i j hi hj).1, by rw [F2.2.2.2.2.2 _ (by omega)]; exact (L i j hi hj).2⟩
      have H2 := H.fi F2
      have ct := c_tokenIn (d := d + 3) S2 L2 H2 (show fr < to by omega) eg
      rw [tk1] at ct
      have F3 : Fi (fun a => a = 13 ∨ a = 14 ∨ a = 15) h (setI (setI (setI h' 14 k (nI fr)) 15 k (nI vv)) 13 k (nI (tkF b sz k))) := F2.si (Or.inl rfl)
      have S3 : Sh (setI (setI (setI h' 14 k (nI fr)) 15 k (nI vv)) 13 k (nI (tkF b sz k))) := S2.si
      have H3 := H.fi F3
      have cb := fun d => c_pastBlanks (d := d) S3 H3 (i := to) eg
      rw [st1] at cb
      have k13 : hkd (setI (setI h' 14 k (nI fr)) 15 k (nI vv)) 13 = 100 := S2.kd (n := 13) (k := 100) rfl rfl
      have l13 : hln (setI (setI h' 14 k (nI fr)) 15 k (nI vv)) 13 = 161 := S2.ln (n := 13) (k := 161) rfl rfl
      obtain ⟨h1, e1, F4, r4⟩ := ih (k + 1) _ (vi (nI to)) (by omega) F3 (fun q hq => by
        rw [hI_eq, hI_ne (by omega), hI_ne (by omega), hI_ne (by omega), hI_eq, hI_ne (a := 14) (by omega), hI_ne (a := 14) (by omega), hI_eq, hI_ne (a := 15) (by omega)]
        by_cases z : q = k
        · rw [if_pos z, if_pos z, if_pos z, z, hfr]
          exact ⟨rfl, fun w => by rw [hv w], rfl⟩
        · rw [if_neg z, if_neg z, if_neg z]
          exact v q (by omega))
      refine ⟨h1, ?_, F4, r4⟩
      rw [run]
      simp (decide := true) (disch := (first | assumption | (simp only [Sh_setI, Sm_setI, Sh_setL, Sm_setL]; assumption) | omega)) only [B_10_67 S1, k15, l15, n_ix, n_cl, bI_True, bI_False, p_max, p_min, p_abs, Option.bind_some, Option.bind_none, Option.toList_some, Option.toList_none, List.cons_append, List.nil_append, bI_eq0, bI_ne0, bI_ne1, bI_eq1, bI_01, eq_self, true_or, or_true, and_true, true_and, false_and, and_false, false_or, or_false, ite_true, ite_false, if_true, if_false, not_true, not_false_iff, Classical.not_not, nem, ite_not, ne_eq]
      rw [show d + 28 + 3 = d + 3 + 28 from by omega, ct]
      simp (decide := true) (disch := (first | assumption | (simp only [Sh_setI, Sm_setI, Sh_setL, Sm_setL]; assumption) | omega)) only [B_10_83 S2, k13, l13, n_ix, n_cl, cb, B_10_90, n_addO, bI_True, bI_False, p_max, p_min, p_abs, Option.bind_some, Option.bind_none, Option.toList_some, Option.toList_none, List.cons_append, List.nil_append, bI_eq0, bI_ne0, bI_ne1, bI_eq1, bI_01, eq_self, true_or, or_true, and_true, true_and, false_and, and_false, false_or, or_false, ite_true, ite_false, if_true, if_false, not_true, not_false_iff, Classical.not_not, nem, ite_not, ne_eq]
      exact e1
  obtain ⟨h1, e1, r⟩ := go N 0 h vu (by omega) Fi.rf (fun q hq => absurd hq (by omega))
  have cb := fun d => c_pastBlanks (d := d) S H (i := 0) (Nat.zero_le _)
  refine ⟨h1, ?_, r⟩
  rw [show nI 0 = (0 : Int32) from rfl] at cb e1
  simp (decide := true) (disch := (first | assumption | (simp only [Sh_setI, Sm_setI, Sh_setL, Sm_setL]; assumption) | omega)) only [E_10, B_10_0 S, cb, B_10_7, bI_True, bI_False, p_max, p_min, p_abs, Option.bind_some, Option.bind_none, Option.toList_some, Option.toList_none, List.cons_append, List.nil_append, bI_eq0, bI_ne0, bI_ne1, bI_eq1, bI_01, eq_self, true_or, or_true, and_true, true_and, false_and, and_false, false_or, or_false, ite_true, ite_false, if_true, if_false, not_true, not_false_iff, Classical.not_not, nem, ite_not, ne_eq]
  exact e1
end LEXC2
