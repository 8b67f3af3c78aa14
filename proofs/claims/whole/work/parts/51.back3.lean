/-! back -/
section BACK3
variable {d : Nat} {h : am_H}
theorem Fi.kq {P : Nat → Prop} {h h' : am_H} (F : Fi P h h') (w : ∀ n, P n → 56 ≤ n ∧ n ≤ 88) : Kq h h' := ⟨congrArg (fun q => q.1) F.1, F.2.1, F.2.2.1, F.2.2.2.1, fun n j _ q2 _ _ => by rw [F.2.2.2.2.2 n (fun z => by have := w n z; omega)]⟩
theorem s_back (R : Rel h) (hb9 : hk h < 900000) : Stq (d + 9) 128 211 [] h := by
  obtain ⟨S, T, I, C, L⟩ := id R
  have b1 : hI h 1 7 = hI h 56 0 := C.1.1
  have d2 : hI h 56 4 = nI (yD (hI h)) := I.2.1.1.1
  have d3 : yD (hI h) ≤ 8 := I.2.1.1.2
  have s2 : hI h 56 8 = nI (yS (hI h)) := I.2.2.1.1.1
  have s3 : yS (hI h) ≤ 6 := I.2.2.1.1.2
  have q2 : hI h 56 12 = nI (yC (hI h)) := I.2.2.2.1.1.1
  have q3 : yC (hI h) ≤ 40 := I.2.2.2.1.1.2
  have n3 : yN (hI h) ≤ 5 := I.1.2.1.2
  have ci := C.2.2.2.2.2.1
  rcases I.2.2.2.2.2.1 with z0 | ⟨z0, ⟨⟨zN, zN5⟩, zNl⟩, ⟨⟨zD, zD8⟩, zDl⟩, ⟨⟨zS, zS6⟩, zSl⟩, ⟨⟨zC, zC4⟩, zCl⟩, jN, jD, jS, jC⟩
  · exact stp_same (v := vi (-3)) R (by simp (decide := true) (disch := (first | assumption | (simp only [Sh_setI, Sm_setI, Sh_setL, Sm_setL]; assumption) | omega)) only [E_128, B_128_0, B_128_10, ci.1, z0, bI_True, bI_False, p_max, p_min, p_abs, Option.bind_some, Option.bind_none, Option.toList_some, Option.toList_none, List.cons_append, List.nil_append, bI_eq0, bI_ne0, bI_ne1, bI_eq1, bI_01, eq_self, true_or, or_true, and_true, true_and, false_and, and_false, false_or, or_false, ite_true, ite_false, if_true, if_false, not_true, not_false_iff, Classical.not_not, nem, ite_not, ne_eq]) (by simp (decide := true) (disch := (first | assumption | (simp only [Sh_setI, Sm_setI, Sh_setL, Sm_setL]; assumption) | omega)) only [E_211, B_211_0, B_211_7, z0, bI_True, bI_False, p_max, p_min, p_abs, Option.bind_some, Option.bind_none, Option.toList_some, Option.toList_none, List.cons_append, List.nil_append, bI_eq0, bI_ne0, bI_ne1, bI_eq1, bI_01, eq_self, true_or, or_true, and_true, true_and, false_and, and_false, false_or, or_false, ite_true, ite_false, if_true, if_false, not_true, not_false_iff, Classical.not_not, nem, ite_not, ne_eq])
  · obtain ⟨c35, cc⟩ := ci
    obtain ⟨c1, c2, c3, c4, iN, iD, iS, iC⟩ := cc z0
    generalize hbN : cl (hI h 56 32) = bN at zN zN5 zNl jN iN
    generalize hbD : cl (hI h 56 33) = bD at zD zD8 zDl jD iD
    generalize hbS : cl (hI h 56 34) = bS at zS zS6 zSl jS iS
    generalize hbC : cl (hI h 56 35) = bC at zC zC4 zCl jC iC
    have e0 := fun d => c_bringSlows (d := d) S (c1.trans zN) zN5
    obtain ⟨mA, CA, fA, fA58⟩ := set_slows C d3 s3 zN5
    have FA : Fi (fun a => a = 5 ∨ a = 6) h (cpyI (cpyI h 37 0 5 0 bN) 38 0 6 0 bN) := (Fi.rf.cp (Or.inl rfl)).cp (Or.inr rfl)
    generalize hAe : cpyI (cpyI h 37 0 5 0 bN) 38 0 6 0 bN = hA at e0 CA FA
    have SA : Sh hA := FA.sh S
    have hkA : hk hA = hk h := congrArg (fun q => q.1) FA.1
    have yA : yD mA = yD (hI h) ∧ yS mA = yS (hI h) ∧ yC mA = yC (hI h) := ⟨by unfold yD; rw [fA 56 (by omega)], by unfold yS; rw [fA 56 (by omega)], by unfold yC; rw [fA 56 (by omega)]⟩
    obtain ⟨hB, mB, eB, FB, CB, fB, fB60⟩ := c_bkD (d := d + 3) (b := bD) bD 0 hA mA (Nat.zero_add _) (by rw [yA.1]; exact zDl) SA CA (by rw [fA 56 (by omega), yA.1]; exact d2) (by omega) (by omega) (by rw [FA.2.2.2.2.2 35 (by omega)]; exact c2.trans zD) (by omega)
    have SB : Sh hB := FB.sh SA
    have hkB : hk hB = hk hA := congrArg (fun q => q.1) FB.1
    have yB' : yD mB = yD (hI h) ∧ yS mB = yS (hI h) ∧ yC mB = yC (hI h) := ⟨by unfold yD; rw [fB 56 (by omega), fA 56 (by omega)], by unfold yS; rw [fB 56 (by omega), fA 56 (by omega)], by unfold yC; rw [fB 56 (by omega), fA 56 (by omega)]⟩
    obtain ⟨hC, mC, eC, FC, CC, fC, fC62, fC63, fC64⟩ := c_bkS (d := d + 3) (b := bS) bS 0 hB mB (Nat.zero_add _) (by rw [yB'.2.1]; exact zSl) SB CB (by rw [fB 56 (by omega), fA 56 (by omega), yB'.2.1]; exact s2) (by omega) (by omega) (by rw [FB.2.2.2.2.2 35 (by omega), FA.2.2.2.2.2 35 (by omega)]; exact c3.trans zS) (by omega)
    have SC : Sh hC := FC.sh SB
    have hkC : hk hC = hk hB := congrArg (fun q => q.1) FC.1
    have yC' : yD mC = yD (hI h) ∧ yS mC = yS (hI h) ∧ yC mC = yC (hI h) := ⟨by unfold yD; rw [fC 56 (by omega) (by omega) (by omega), fB 56 (by omega), fA 56 (by omega)], by unfold yS; rw [fC 56 (by omega) (by omega) (by omega), fB 56 (by omega), fA 56 (by omega)], by unfold yC; rw [fC 56 (by omega) (by omega) (by omega), fB 56 (by omega), fA 56 (by omega)]⟩
    have r43 : ∀ q, q < bC → hI hC 43 q = 0 ∨ hI hC 43 q = 1 := fun q hq => by
      rw [FC.2.2.2.2.2 43 (by omega), FB.2.2.2.2.2 43 (by omega), FA.2.2.2.2.2 43 (by omega), iC q hq]
      exact jC q hq
    obtain ⟨hD, mD, eD, FD, CD, fD, fD72⟩ := c_bkC (d := d + 3) (b := bC) bC 0 hC mC (Nat.zero_add _) (by rw [yC'.2.2]; exact zCl) SC CC (by rw [fC 56 (by omega) (by omega) (by omega), fB 56 (by omega), fA 56 (by omega), yC'.2.2]; exact q2) (by omega) (by omega) (by omega) (by rw [FC.2.2.2.2.2 35 (by omega), FB.2.2.2.2.2 35 (by omega), FA.2.2.2.2.2 35 (by omega)]; exact c4.trans zC) (by omega) r43
    have SD : Sh hD := FD.sh SC
    have stD : ∀ a, a ≤ 88 → a ≠ 5 → a ≠ 6 → hI hD a = hI h a := fun a q1 q2 q3 => by rw [FD.2.2.2.2.2 a (by omega), FC.2.2.2.2.2 a (by omega), FB.2.2.2.2.2 a (by omega), FA.2.2.2.2.2 a (by omega)]
    have TD : Sm hD := FD.sm (FC.sm (FB.sm (FA.sm T)))
    obtain ⟨hE, eE, FE, gE⟩ := m_bkB (d := d + 3) zN5 bN 0 hD (Nat.zero_add _) TD (by rw [stD 56 (by omega) (by omega) (by omega)]; exact zN)
    obtain ⟨hF, eF, FF, gF⟩ := m_bkD (d := d + 3) zD8 bD 0 hE (Nat.zero_add _) (FE.sm TD) (by rw [FE.2.2.2.2.2 56 (by omega), stD 56 (by omega) (by omega) (by omega)]; exact zD)
    obtain ⟨hG, eG, FG, gG, gG', gG''⟩ := m_bkS (d := d + 3) zS6 bS 0 hF (Nat.zero_add _) (FF.sm (FE.sm TD)) (by rw [FF.2.2.2.2.2 56 (by omega), FE.2.2.2.2.2 56 (by omega), stD 56 (by omega) (by omega) (by omega)]; exact zS)
    obtain ⟨hH, eH, FH, gH⟩ := m_bkC (d := d + 3) zC4 bC 0 hG (Nat.zero_add _) (FG.sm (FF.sm (FE.sm TD))) (by rw [FG.2.2.2.2.2 56 (by omega), FF.2.2.2.2.2 56 (by omega), FE.2.2.2.2.2 56 (by omega), stD 56 (by omega) (by omega) (by omega)]; exact zC) (fun q hq => by rw [FG.2.2.2.2.2 81 (by omega), FF.2.2.2.2.2 81 (by omega), FE.2.2.2.2.2 81 (by omega), stD 81 (by omega) (by omega) (by omega)]; exact jC q hq)
    have TH : Sm hH := FH.sm (FG.sm (FF.sm (FE.sm TD)))
    have FM : Fi (fun a => a = 58 ∨ a = 60 ∨ a = 62 ∨ a = 63 ∨ a = 64 ∨ a = 72) hD hH := (FE.mono (fun n q => by omega)).tr ((FF.mono (fun n q => by omega)).tr ((FG.mono (fun n q => by omega)).tr (FH.mono (fun n q => by omega))))
    have st8 : ∀ a, a ≤ 88 → a ≠ 5 → a ≠ 6 → a ≠ 58 → a ≠ 60 → a ≠ 62 → a ≠ 63 → a ≠ 64 → a ≠ 72 → hI hH a = hI h a := fun a q1 q2 q3 q4 q5 q6 q7 q8 q9 => by rw [FM.2.2.2.2.2 a (by omega), stD a q1 q2 q3]
    have u58 : ∀ q, hI hH 58 q = if q < bN then hI h 76 q else if 5 ≤ q ∧ q < 5 + bN then hI h 76 q else hI h 58 q := fun q => by
      rw [FH.2.2.2.2.2 58 (by omega), FG.2.2.2.2.2 58 (by omega), FF.2.2.2.2.2 58 (by omega), gE, stD 76 (by omega) (by omega) (by omega), stD 58 (by omega) (by omega) (by omega)]
      by_cases w : q < bN
      · rw [if_pos (by omega), if_pos w]
      · rw [if_neg w]
        by_cases w2 : 5 ≤ q ∧ q < 5 + bN
        · rw [if_pos (by omega), if_pos w2]
        · rw [if_neg (by omega), if_neg w2]
    have u60 : ∀ q, hI hH 60 q = if q < bD then hI h 77 q else hI h 60 q := fun q => by
      rw [FH.2.2.2.2.2 60 (by omega), FG.2.2.2.2.2 60 (by omega), gF, FE.2.2.2.2.2 77 (by omega), FE.2.2.2.2.2 60 (by omega), stD 77 (by omega) (by omega) (by omega), stD 60 (by omega) (by omega) (by omega)]
      simp only [Nat.zero_le, true_and]
    have u62 : ∀ q, hI hH 62 q = if q < bS then hI h 78 q else hI h 62 q := fun q => by
      rw [FH.2.2.2.2.2 62 (by omega), gG, FF.2.2.2.2.2 78 (by omega), FF.2.2.2.2.2 62 (by omega), FE.2.2.2.2.2 78 (by omega), FE.2.2.2.2.2 62 (by omega), stD 78 (by omega) (by omega) (by omega), stD 62 (by omega) (by omega) (by omega)]
      simp only [Nat.zero_le, true_and]
    have u63 : ∀ q, hI hH 63 q = if q < bS then hI h 79 q else hI h 63 q := fun q => by
      rw [FH.2.2.2.2.2 63 (by omega), gG', FF.2.2.2.2.2 79 (by omega), FF.2.2.2.2.2 63 (by omega), FE.2.2.2.2.2 79 (by omega), FE.2.2.2.2.2 63 (by omega), stD 79 (by omega) (by omega) (by omega), stD 63 (by omega) (by omega) (by omega)]
      simp only [Nat.zero_le, true_and]
    have u64 : ∀ q, hI hH 64 q = if q < bS then hI h 80 q else hI h 64 q := fun q => by
      rw [FH.2.2.2.2.2 64 (by omega), gG'', FF.2.2.2.2.2 80 (by omega), FF.2.2.2.2.2 64 (by omega), FE.2.2.2.2.2 80 (by omega), FE.2.2.2.2.2 64 (by omega), stD 80 (by omega) (by omega) (by omega), stD 64 (by omega) (by omega) (by omega)]
      simp only [Nat.zero_le, true_and]
    have u72 : ∀ q, hI hH 72 q = if q < bC then hI h 81 q else hI h 72 q := fun q => by
      rw [gH, FG.2.2.2.2.2 81 (by omega), FG.2.2.2.2.2 72 (by omega), FF.2.2.2.2.2 81 (by omega), FF.2.2.2.2.2 72 (by omega), FE.2.2.2.2.2 81 (by omega), FE.2.2.2.2.2 72 (by omega), stD 81 (by omega) (by omega) (by omega), stD 72 (by omega) (by omega) (by omega)]
      simp only [Nat.zero_le, true_and]
    have SH : Sh hH := FM.sh SD
    have hkH : hk hH = hk hD := congrArg (fun q => q.1) FM.1
    have hkD' : hk hD = hk hC := congrArg (fun q => q.1) FD.1
    have hsH : hs hH = hs h := by
      have w1 := congrArg (fun q => q.2) FM.1
      have w2 := congrArg (fun q => q.2) FD.1
      have w3 := congrArg (fun q => q.2) FC.1
      have w4 := congrArg (fun q => q.2) FB.1
      have w5 := congrArg (fun q => q.2) FA.1
      exact w1.trans (w2.trans (w3.trans (w4.trans w5)))
    have kdH : hkd hH = hkd h := FM.2.1.trans (FD.2.1.trans (FC.2.1.trans (FB.2.1.trans FA.2.1)))
    have lnH : hln hH = hln h := FM.2.2.1.trans (FD.2.2.1.trans (FC.2.2.1.trans (FB.2.2.1.trans FA.2.2.1)))
    have lH : hL hH = hL h := FM.2.2.2.2.1.trans (FD.2.2.2.2.1.trans (FC.2.2.2.2.1.trans (FB.2.2.2.2.1.trans FA.2.2.2.2.1)))
    refine ⟨vi (hI h 56 0), hD, hH, ?_, ?_, ⟨SH, TH, ⟨⟨?_, ?_, ?_⟩, ⟨?_, fun k hk => ?_⟩, ⟨?_, fun k hk => ?_⟩, ⟨?_, fun k hk => ?_, fun k hk hk4 => ?_⟩, (by simp (decide := true) (disch := (first | assumption | (simp only [Sh_setI, Sm_setI, Sh_setL, Sm_setL]; assumption) | omega)) only [InvT, yB, yT, hI_ne, hI_eq, st8, bI_True, bI_False, p_max, p_min, p_abs, Option.bind_some, Option.bind_none, Option.toList_some, Option.toList_none, List.cons_append, List.nil_append, bI_eq0, bI_ne0, bI_ne1, bI_eq1, bI_01, eq_self, true_or, or_true, and_true, true_and, false_and, and_false, false_or, or_false, ite_true, ite_false, if_true, if_false, not_true, not_false_iff, Classical.not_not, nem, ite_not, ne_eq]; exact I.2.2.2.2.1), (by simp (decide := true) (disch := (first | assumption | (simp only [Sh_setI, Sm_setI, Sh_setL, Sm_setL]; assumption) | omega)) only [InvI, yN, yD, yS, yC, hI_ne, hI_eq, st8, bI_True, bI_False, p_max, p_min, p_abs, Option.bind_some, Option.bind_none, Option.toList_some, Option.toList_none, List.cons_append, List.nil_append, bI_eq0, bI_ne0, bI_ne1, bI_eq1, bI_01, eq_self, true_or, or_true, and_true, true_and, false_and, and_false, false_or, or_false, ite_true, ite_false, if_true, if_false, not_true, not_false_iff, Classical.not_not, nem, ite_not, ne_eq]; exact I.2.2.2.2.2.1), (by simp (decide := true) (disch := (first | assumption | (simp only [Sh_setI, Sm_setI, Sh_setL, Sm_setL]; assumption) | omega)) only [InvH, hI_ne, hI_eq, st8, bI_True, bI_False, p_max, p_min, p_abs, Option.bind_some, Option.bind_none, Option.toList_some, Option.toList_none, List.cons_append, List.nil_append, bI_eq0, bI_ne0, bI_ne1, bI_eq1, bI_01, eq_self, true_or, or_true, and_true, true_and, false_and, and_false, false_or, or_false, ite_true, ite_false, if_true, if_false, not_true, not_false_iff, Classical.not_not, nem, ite_not, ne_eq]; exact I.2.2.2.2.2.2)⟩, ?_, ?_⟩, ?_⟩
    · rw [show nI 0 = (0 : Int32) from rfl] at eB eC eD
      simp (decide := true) (disch := (first | assumption | (simp only [Sh_setI, Sm_setI, Sh_setL, Sm_setL]; assumption) | omega)) only [E_128, B_128_0, B_128_13, B_128_24, c35, z0, e0, eB, bI_True, bI_False, p_max, p_min, p_abs, Option.bind_some, Option.bind_none, Option.toList_some, Option.toList_none, List.cons_append, List.nil_append, bI_eq0, bI_ne0, bI_ne1, bI_eq1, bI_01, eq_self, true_or, or_true, and_true, true_and, false_and, and_false, false_or, or_false, ite_true, ite_false, if_true, if_false, not_true, not_false_iff, Classical.not_not, nem, ite_not, ne_eq]
      simp (decide := true) (disch := (first | assumption | (simp only [Sh_setI, Sm_setI, Sh_setL, Sm_setL]; assumption) | omega)) only [B_128_55, eC, B_128_86, eD, B_128_118 SD, stD, b1, bI_True, bI_False, p_max, p_min, p_abs, Option.bind_some, Option.bind_none, Option.toList_some, Option.toList_none, List.cons_append, List.nil_append, bI_eq0, bI_ne0, bI_ne1, bI_eq1, bI_01, eq_self, true_or, or_true, and_true, true_and, false_and, and_false, false_or, or_false, ite_true, ite_false, if_true, if_false, not_true, not_false_iff, Classical.not_not, nem, ite_not, ne_eq]
    · rw [show nI 0 = (0 : Int32) from rfl] at eE eF eG eH
      simp (decide := true) (disch := (first | assumption | (simp only [Sh_setI, Sm_setI, Sh_setL, Sm_setL]; assumption) | omega)) only [E_211, B_211_0, B_211_10, stD, z0, eE, B_211_54, eF, B_211_82, eG, B_211_134, eH, B_211_162 TH, st8, bI_True, bI_False, p_max, p_min, p_abs, Option.bind_some, Option.bind_none, Option.toList_some, Option.toList_none, List.cons_append, List.nil_append, bI_eq0, bI_ne0, bI_ne1, bI_eq1, bI_01, eq_self, true_or, or_true, and_true, true_and, false_and, and_false, false_or, or_false, ite_true, ite_false, if_true, if_false, not_true, not_false_iff, Classical.not_not, nem, ite_not, ne_eq]
    · simp (decide := true) (disch := (first | assumption | (simp only [Sh_setI, Sm_setI, Sh_setL, Sm_setL]; assumption) | omega)) only [st8, bI_True, bI_False, p_max, p_min, p_abs, Option.bind_some, Option.bind_none, Option.toList_some, Option.toList_none, List.cons_append, List.nil_append, bI_eq0, bI_ne0, bI_ne1, bI_eq1, bI_01, eq_self, true_or, or_true, and_true, true_and, false_and, and_false, false_or, or_false, ite_true, ite_false, if_true, if_false, not_true, not_false_iff, Classical.not_not, nem, ite_not, ne_eq]; exact I.1.1
    · simp (decide := true) (disch := (first | assumption | (simp only [Sh_setI, Sm_setI, Sh_setL, Sm_setL]; assumption) | omega)) only [st8, bI_True, bI_False, p_max, p_min, p_abs, Option.bind_some, Option.bind_none, Option.toList_some, Option.toList_none, List.cons_append, List.nil_append, bI_eq0, bI_ne0, bI_ne1, bI_eq1, bI_01, eq_self, true_or, or_true, and_true, true_and, false_and, and_false, false_or, or_false, ite_true, ite_false, if_true, if_false, not_true, not_false_iff, Classical.not_not, nem, ite_not, ne_eq]; exact I.1.2.1
    · simp (decide := true) (disch := (first | assumption | (simp only [Sh_setI, Sm_setI, Sh_setL, Sm_setL]; assumption) | omega)) only [yN, st8, bI_True, bI_False, p_max, p_min, p_abs, Option.bind_some, Option.bind_none, Option.toList_some, Option.toList_none, List.cons_append, List.nil_append, bI_eq0, bI_ne0, bI_ne1, bI_eq1, bI_01, eq_self, true_or, or_true, and_true, true_and, false_and, and_false, false_or, or_false, ite_true, ite_false, if_true, if_false, not_true, not_false_iff, Classical.not_not, nem, ite_not, ne_eq]
      obtain ⟨o1, o2, o3⟩ := I.1.2.2
      refine ⟨o1, o2, fun k hk => ?_⟩
      obtain ⟨p1, p2, p3⟩ := o3 k hk
      change k < yN (hI h) at hk
      refine ⟨p1, ?_, ?_⟩
      · rw [u58]
        by_cases w : k < bN
        · rw [if_pos w]; exact (jN k w).1
        · rw [if_neg w, if_neg (by omega)]; exact p2
      · show ∃ c, hI hH 58 (5 + k) = nI c ∧ c ≤ 99
        rw [u58, if_neg (by omega)]
        by_cases w : k < bN
        · rw [if_pos (by omega)]; exact (jN k w).2
        · rw [if_neg (by omega)]; exact p3
    · simp (decide := true) (disch := (first | assumption | (simp only [Sh_setI, Sm_setI, Sh_setL, Sm_setL]; assumption) | omega)) only [st8, bI_True, bI_False, p_max, p_min, p_abs, Option.bind_some, Option.bind_none, Option.toList_some, Option.toList_none, List.cons_append, List.nil_append, bI_eq0, bI_ne0, bI_ne1, bI_eq1, bI_01, eq_self, true_or, or_true, and_true, true_and, false_and, and_false, false_or, or_false, ite_true, ite_false, if_true, if_false, not_true, not_false_iff, Classical.not_not, nem, ite_not, ne_eq]; exact I.2.1.1
    · rw [show yD (hI hH) = yD (hI h) by unfold yD; rw [st8 56 (by omega) (by omega) (by omega) (by omega) (by omega) (by omega) (by omega) (by omega) (by omega)]] at hk
      rw [u60]
      simp (decide := true) (disch := (first | assumption | (simp only [Sh_setI, Sm_setI, Sh_setL, Sm_setL]; assumption) | omega)) only [st8, bI_True, bI_False, p_max, p_min, p_abs, Option.bind_some, Option.bind_none, Option.toList_some, Option.toList_none, List.cons_append, List.nil_append, bI_eq0, bI_ne0, bI_ne1, bI_eq1, bI_01, eq_self, true_or, or_true, and_true, true_and, false_and, and_false, false_or, or_false, ite_true, ite_false, if_true, if_false, not_true, not_false_iff, Classical.not_not, nem, ite_not, ne_eq]
      refine ⟨(I.2.1.2 k hk).1, ?_⟩
      split
      · rename_i w; exact jD k w
      · exact (I.2.1.2 k hk).2
    · simp (decide := true) (disch := (first | assumption | (simp only [Sh_setI, Sm_setI, Sh_setL, Sm_setL]; assumption) | omega)) only [st8, bI_True, bI_False, p_max, p_min, p_abs, Option.bind_some, Option.bind_none, Option.toList_some, Option.toList_none, List.cons_append, List.nil_append, bI_eq0, bI_ne0, bI_ne1, bI_eq1, bI_01, eq_self, true_or, or_true, and_true, true_and, false_and, and_false, false_or, or_false, ite_true, ite_false, if_true, if_false, not_true, not_false_iff, Classical.not_not, nem, ite_not, ne_eq]; exact I.2.2.1.1
    · rw [show yS (hI hH) = yS (hI h) by unfold yS; rw [st8 56 (by omega) (by omega) (by omega) (by omega) (by omega) (by omega) (by omega) (by omega) (by omega)]] at hk
      rw [u62, u63, u64]
      by_cases w : k < bS
      · rw [if_pos w, if_pos w, if_pos w]; exact jS k w
      · rw [if_neg w, if_neg w, if_neg w]; exact I.2.2.1.2 k hk
    · simp (decide := true) (disch := (first | assumption | (simp only [Sh_setI, Sm_setI, Sh_setL, Sm_setL]; assumption) | omega)) only [st8, bI_True, bI_False, p_max, p_min, p_abs, Option.bind_some, Option.bind_none, Option.toList_some, Option.toList_none, List.cons_append, List.nil_append, bI_eq0, bI_ne0, bI_ne1, bI_eq1, bI_01, eq_self, true_or, or_true, and_true, true_and, false_and, and_false, false_or, or_false, ite_true, ite_false, if_true, if_false, not_true, not_false_iff, Classical.not_not, nem, ite_not, ne_eq]; exact I.2.2.2.1.1
    · rw [show yC (hI hH) = yC (hI h) by unfold yC; rw [st8 56 (by omega) (by omega) (by omega) (by omega) (by omega) (by omega) (by omega) (by omega) (by omega)]] at hk
      simp (decide := true) (disch := (first | assumption | (simp only [Sh_setI, Sm_setI, Sh_setL, Sm_setL]; assumption) | omega)) only [yDr, ySh, yD, yS, st8, bI_True, bI_False, p_max, p_min, p_abs, Option.bind_some, Option.bind_none, Option.toList_some, Option.toList_none, List.cons_append, List.nil_append, bI_eq0, bI_ne0, bI_ne1, bI_eq1, bI_01, eq_self, true_or, or_true, and_true, true_and, false_and, and_false, false_or, or_false, ite_true, ite_false, if_true, if_false, not_true, not_false_iff, Classical.not_not, nem, ite_not, ne_eq]
      obtain ⟨o1, o2, o3, o4, o5, o6, o7⟩ := I.2.2.2.1.2.1 k hk
      refine ⟨o1, o2, o3, o4, o5, o6, ?_⟩
      rw [u72]
      split
      · rename_i w; exact jC k w
      · exact o7
    · rw [show yC (hI hH) = yC (hI h) by unfold yC; rw [st8 56 (by omega) (by omega) (by omega) (by omega) (by omega) (by omega) (by omega) (by omega) (by omega)]] at hk
      rw [u72, if_neg (by omega)]
      simp (decide := true) (disch := (first | assumption | (simp only [Sh_setI, Sm_setI, Sh_setL, Sm_setL]; assumption) | omega)) only [st8, bI_True, bI_False, p_max, p_min, p_abs, Option.bind_some, Option.bind_none, Option.toList_some, Option.toList_none, List.cons_append, List.nil_append, bI_eq0, bI_ne0, bI_ne1, bI_eq1, bI_01, eq_self, true_or, or_true, and_true, true_and, false_and, and_false, false_or, or_false, ite_true, ite_false, if_true, if_false, not_true, not_false_iff, Classical.not_not, nem, ite_not, ne_eq]
      exact I.2.2.2.1.2.2 k hk hk4
    · refine CR_cg (m := mD) (fun a qa qb => ?_) (fun f hf => ?_) ((FM.kq (fun n q => by omega)).cr SD CD)
      · funext q
        by_cases w58 : a = 58
        · rw [w58, u58, fD 58 (by omega), fC 58 (by omega) (by omega) (by omega), fB 58 (by omega), fA58]
          by_cases w : q < bN
          · rw [if_pos w, if_pos w, (iN q w).1]
          · rw [if_neg w, if_neg w]
            by_cases w2 : 5 ≤ q ∧ q < 5 + bN
            · rw [if_pos w2, if_pos w2, (iN (q - 5) (by omega)).2]
              congr 1; omega
            · rw [if_neg w2, if_neg w2]
        by_cases w60 : a = 60
        · rw [w60, u60, fD 60 (by omega), fC 60 (by omega) (by omega) (by omega), fB60, fA 60 (by omega)]
          by_cases w : q < bD
          · rw [if_pos w, if_pos ⟨Nat.zero_le _, w⟩, FA.2.2.2.2.2 39 (by omega), iD q w]
          · rw [if_neg w, if_neg (fun z => w z.2)]
        by_cases w62 : a = 62
        · rw [w62, u62, fD 62 (by omega), fC62, fB 62 (by omega), fA 62 (by omega)]
          by_cases w : q < bS
          · rw [if_pos w, if_pos ⟨Nat.zero_le _, w⟩, FB.2.2.2.2.2 40 (by omega), FA.2.2.2.2.2 40 (by omega), (iS q w).1]
          · rw [if_neg w, if_neg (fun z => w z.2)]
        by_cases w63 : a = 63
        · rw [w63, u63, fD 63 (by omega), fC63, fB 63 (by omega), fA 63 (by omega)]
          by_cases w : q < bS
          · rw [if_pos w, if_pos ⟨Nat.zero_le _, w⟩, FB.2.2.2.2.2 41 (by omega), FA.2.2.2.2.2 41 (by omega), (iS q w).2.1]
          · rw [if_neg w, if_neg (fun z => w z.2)]
        by_cases w64 : a = 64
        · rw [w64, u64, fD 64 (by omega), fC64, fB 64 (by omega), fA 64 (by omega)]
          by_cases w : q < bS
          · rw [if_pos w, if_pos ⟨Nat.zero_le _, w⟩, FB.2.2.2.2.2 42 (by omega), FA.2.2.2.2.2 42 (by omega), (iS q w).2.2]
          · rw [if_neg w, if_neg (fun z => w z.2)]
        by_cases w72 : a = 72
        · rw [w72, u72, fD72, fC 72 (by omega) (by omega) (by omega), fB 72 (by omega), fA 72 (by omega)]
          by_cases w : q < bC
          · rw [if_pos w, if_pos ⟨Nat.zero_le _, w⟩, FC.2.2.2.2.2 43 (by omega), FB.2.2.2.2.2 43 (by omega), FA.2.2.2.2.2 43 (by omega), iC q w]
          · rw [if_neg w, if_neg (fun z => w z.2)]
        rw [st8 a (by omega) (by omega) (by omega) w58 w60 w62 w63 w64 w72, fD a w72, fC a w62 w63 w64, fB a w60, fA a w58]
      · rw [st8 56 (by omega) (by omega) (by omega) (by omega) (by omega) (by omega) (by omega) (by omega) (by omega), fD 56 (by omega), fC 56 (by omega) (by omega) (by omega), fB 56 (by omega), fA 56 (by omega)]
    · refine ⟨by rw [kdH]; exact L.1, fun k hk => by rw [lH]; exact L.2.1 k hk, fun i j hi hj => ⟨?_, ?_⟩⟩
      · rw [FM.2.2.2.2.2 _ (by omega), FD.2.2.2.2.2 _ (by omega), FC.2.2.2.2.2 _ (by omega), FB.2.2.2.2.2 _ (by omega), FA.2.2.2.2.2 _ (by omega)]
        exact (L.2.2 i j hi hj).1
      · rw [FM.2.2.2.2.2 _ (by omega), FD.2.2.2.2.2 _ (by omega), FC.2.2.2.2.2 _ (by omega), FB.2.2.2.2.2 _ (by omega), FA.2.2.2.2.2 _ (by omega)]
        exact (L.2.2 i j hi hj).2
    · exact ⟨st8 0 (by omega) (by omega) (by omega) (by omega) (by omega) (by omega) (by omega) (by omega) (by omega), by rw [kdH], by rw [lnH], by omega, by omega⟩
end BACK3
