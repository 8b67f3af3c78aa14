/-! text: the model's next token -/
theorem endL {b : Nat → Nat} {sz fr : Nat} (hf : fr < sz) (a : isLt (b fr) = true) : runB isLt b (sz - fr) fr = endF b sz fr := by
  unfold endF
  rw [if_pos a, show sz - fr = (sz - (fr + 1)) + 1 by omega, runB, if_pos a]
theorem lt_nd {c : Nat} (a : isDg c = true) : ¬ isLt c = true := by
  unfold isLt isDg at *
  simp at a ⊢
  omega
theorem endD {b : Nat → Nat} {sz fr : Nat} (hf : fr < sz) (a : isDg (b fr) = true) : runB isDg b (sz - fr) fr = endF b sz fr := by
  unfold endF
  rw [if_neg (lt_nd a), if_pos a, show sz - fr = (sz - (fr + 1)) + 1 by omega, runB, if_pos a]
def mW (m : Nat) : Int32 := if m < 2 then 3 else if m < 8 then 2 else if m = 11 then -1 else 4 + nI m - 8
def vW (m : Nat) : Int32 := if m < 2 then nI m else nI m - 2
theorem mW_ok : ∀ m, m < 12 → mW m = mTk (if m = 11 then 2 else pmM.getD m 0) ∧ vW m = nI (if m < 2 then m else m - 2) := by decide
theorem mW_t : ∀ m, m < 12 → ((if m = 11 then 2 else pmM.getD m 0) ≠ 1) ∧ (133 ≤ (if m = 11 then 2 else pmM.getD m 0) ∧ (if m = 11 then 2 else pmM.getD m 0) < 139 → vW m = nI ((if m = 11 then 2 else pmM.getD m 0) - 133)) ∧ ((if m = 11 then 2 else pmM.getD m 0) = 128 → vW m = 0) ∧ ((if m = 11 then 2 else pmM.getD m 0) = 129 → vW m = 1) := by decide
theorem wd_iff {ws : List Nat} (hc : ∀ c, c ∈ ws → 1 ≤ c ∧ c < 256) {w : Int64} (h1 : ws.length ≤ 5 → w = lI (pkL ws 0)) (h2 : ¬ ws.length ≤ 5 → w = 0) : ∀ k, k < 11 → (wdL.getD k 0 = w ↔ ws = wdsM.getD k []) := by
  intro k hk
  obtain ⟨e, l, p⟩ := wdM_pk k hk
  have b2 := pkL_lt (wdsM.getD k []) 0 (fun c q => (wdM_c k hk c q).2)
  have p2 : 256 ^ (wdsM.getD k []).length ≤ 256 ^ 5 := Nat.pow_le_pow_right (by decide) l
  have e5 : (256 : Nat) ^ 5 = 1099511627776 := by decide
  by_cases n5 : ws.length ≤ 5
  · rw [h1 n5, e]
    have b1 := pkL_lt ws 0 (fun c q => (hc c q).2)
    have p1 : 256 ^ ws.length ≤ 256 ^ 5 := Nat.pow_le_pow_right (by decide) n5
    constructor
    · intro z
      have z2 := congrArg Int64.toInt z
      rw [lI_toInt (by omega), lI_toInt (by omega)] at z2
      exact (pk_inj _ _ _ (Nat.le_refl _) (wdM_c k hk) hc (by omega)).symm
    · intro z
      rw [z]
  · rw [h2 n5, e]
    constructor
    · intro z
      rw [lI_0 (by omega)] at z
      omega
    · intro z
      rw [z] at n5
      exact absurd l n5
section NEXT
variable {d : Nat} {h : am_H}
theorem m_word (T : Sm h) {m : Nat} (hm : m < 12) {a1 : Int32} {a2 : Int64} : Ev (d + 4) 176 136 [vr (some 56), vi a1, vl a2, vu, vi (nI m)] [] h = some (none, setI (setI h 56 47 (mW m)) 56 48 (vW m)) := by
  have k56 : ∀ v, hkd (setI h 56 47 v) 56 = 11 := fun v => (T.si (n := 56) (i := 47) (v := v)).kd (n := 56) (k := 11) rfl rfl
  have k0 : hkd h 56 = 11 := T.kd (n := 56) (k := 11) rfl rfl
  unfold mW vW
  by_cases a : m < 2
  · rw [if_pos a, if_pos a]
    simp (decide := true) (disch := (first | assumption | (simp only [Sh_setI, Sm_setI, Sh_setL, Sm_setL]; assumption) | omega)) only [B_176_136, n_Ole, show ¬ 2 ≤ m by omega, B_176_143, B_176_176, k0, k56, B_176_186, B_176_195, B_176_387, bI_True, bI_False, p_max, p_min, p_abs, Option.bind_some, Option.bind_none, Option.toList_some, Option.toList_none, List.cons_append, List.nil_append, bI_eq0, bI_ne0, bI_ne1, bI_eq1, bI_01, eq_self, true_or, or_true, and_true, true_and, false_and, and_false, false_or, or_false, ite_true, ite_false, if_true, if_false, not_true, not_false_iff, Classical.not_not, nem, ite_not, ne_eq]
  · rw [if_neg a, if_neg a]
    by_cases c : m < 8
    · rw [if_pos c]
      simp (decide := true) (disch := (first | assumption | (simp only [Sh_setI, Sm_setI, Sh_setL, Sm_setL]; assumption) | omega)) only [B_176_136, n_Ole, show 2 ≤ m by omega, B_176_147, show ¬ 8 ≤ m by omega, B_176_154, B_176_176, k0, k56, B_176_191, B_176_195, B_176_387, bI_True, bI_False, p_max, p_min, p_abs, Option.bind_some, Option.bind_none, Option.toList_some, Option.toList_none, List.cons_append, List.nil_append, bI_eq0, bI_ne0, bI_ne1, bI_eq1, bI_01, eq_self, true_or, or_true, and_true, true_and, false_and, and_false, false_or, or_false, ite_true, ite_false, if_true, if_false, not_true, not_false_iff, Classical.not_not, nem, ite_not, ne_eq]
    · rw [if_neg c]
      by_cases e : m = 11
      · rw [if_pos e]
        simp (decide := true) (disch := (first | assumption | (simp only [Sh_setI, Sm_setI, Sh_setL, Sm_setL]; assumption) | omega)) only [B_176_136, n_Ole, show 2 ≤ m by omega, B_176_147, show 8 ≤ m by omega, B_176_158, n_eqO, e, B_176_165, B_176_176, k0, k56, B_176_191, B_176_195, B_176_387, bI_True, bI_False, p_max, p_min, p_abs, Option.bind_some, Option.bind_none, Option.toList_some, Option.toList_none, List.cons_append, List.nil_append, bI_eq0, bI_ne0, bI_ne1, bI_eq1, bI_01, eq_self, true_or, or_true, and_true, true_and, false_and, and_false, false_or, or_false, ite_true, ite_false, if_true, if_false, not_true, not_false_iff, Classical.not_not, nem, ite_not, ne_eq]
      · rw [if_neg e]
        simp (decide := true) (disch := (first | assumption | (simp only [Sh_setI, Sm_setI, Sh_setL, Sm_setL]; assumption) | omega)) only [B_176_136, n_Ole, show 2 ≤ m by omega, B_176_147, show 8 ≤ m by omega, B_176_158, n_eqO, e, B_176_169, B_176_176, k0, k56, B_176_191, B_176_195, B_176_387, bI_True, bI_False, p_max, p_min, p_abs, Option.bind_some, Option.bind_none, Option.toList_some, Option.toList_none, List.cons_append, List.nil_append, bI_eq0, bI_ne0, bI_ne1, bI_eq1, bI_01, eq_self, true_or, or_true, and_true, true_and, false_and, and_false, false_or, or_false, ite_true, ite_false, if_true, if_false, not_true, not_false_iff, Classical.not_not, nem, ite_not, ne_eq]
theorem sg_tk {c : Nat} (s : c = 40 ∨ c = 41 ∨ c = 59 ∨ c = 43 ∨ c = 45 ∨ c = 42 ∨ c = 60 ∨ c = 61) : mTk c = nI c ∧ c ≠ 1 ∧ c < 128 := by
  rcases s with rfl | rfl | rfl | rfl | rfl | rfl | rfl | rfl <;> decide
theorem m_signs (T : Sm h) {c : Nat} (hc : c < 256) : Ev (d + 4) 176 310 [vr (some 56), vi (nI c), vu, vu, vu] [] h = some (none, setI (setI h 56 47 (mTk (sgC c))) 56 45 (hI h 56 45 + 1)) := by
  have k56 : hkd h 56 = 11 := T.kd (n := 56) (k := 11) rfl rfl
  unfold sgC
  by_cases s : c = 40 ∨ c = 41 ∨ c = 59 ∨ c = 43 ∨ c = 45 ∨ c = 42 ∨ c = 60 ∨ c = 61
  · rw [if_pos s, (sg_tk s).1]
    have go : Ev (d + 4) 176 310 [vr (some 56), vi (nI c), vu, vu, vu] [] h = Ev (d + 4) 176 358 [vr (some 56), vi (nI c), vu, vu, vu] [] h := by
      rcases s with rfl | rfl | rfl | rfl | rfl | rfl | rfl | rfl <;> simp (decide := true) (disch := (first | assumption | (simp only [Sh_setI, Sm_setI, Sh_setL, Sm_setL]; assumption) | omega)) only [B_176_310, B_176_316, B_176_322, B_176_328, B_176_334, B_176_340, B_176_346, B_176_352, n_eqO, bI_True, bI_False, p_max, p_min, p_abs, Option.bind_some, Option.bind_none, Option.toList_some, Option.toList_none, List.cons_append, List.nil_append, bI_eq0, bI_ne0, bI_ne1, bI_eq1, bI_01, eq_self, true_or, or_true, and_true, true_and, false_and, and_false, false_or, or_false, ite_true, ite_false, if_true, if_false, not_true, not_false_iff, Classical.not_not, nem, ite_not, ne_eq]
    rw [go]
    simp (decide := true) (disch := (first | assumption | (simp only [Sh_setI, Sm_setI, Sh_setL, Sm_setL]; assumption) | omega)) only [B_176_358, B_176_363, B_176_369, B_176_374 T, k56, hI_eq, B_176_387, bI_True, bI_False, p_max, p_min, p_abs, Option.bind_some, Option.bind_none, Option.toList_some, Option.toList_none, List.cons_append, List.nil_append, bI_eq0, bI_ne0, bI_ne1, bI_eq1, bI_01, eq_self, true_or, or_true, and_true, true_and, false_and, and_false, false_or, or_false, ite_true, ite_false, if_true, if_false, not_true, not_false_iff, Classical.not_not, nem, ite_not, ne_eq]
  · rw [if_neg s]
    have s1 : c ≠ 40 := fun z => s (Or.inl z)
    have s2 : c ≠ 41 := fun z => s (Or.inr (Or.inl z))
    have s3 : c ≠ 59 := fun z => s (Or.inr (Or.inr (Or.inl z)))
    have s4 : c ≠ 43 := fun z => s (Or.inr (Or.inr (Or.inr (Or.inl z))))
    have s5 : c ≠ 45 := fun z => s (Or.inr (Or.inr (Or.inr (Or.inr (Or.inl z)))))
    have s6 : c ≠ 42 := fun z => s (Or.inr (Or.inr (Or.inr (Or.inr (Or.inr (Or.inl z))))))
    have s7 : c ≠ 60 := fun z => s (Or.inr (Or.inr (Or.inr (Or.inr (Or.inr (Or.inr (Or.inl z)))))))
    have s8 : c ≠ 61 := fun z => s (Or.inr (Or.inr (Or.inr (Or.inr (Or.inr (Or.inr (Or.inr z)))))))
    rw [show mTk 2 = -1 from rfl]
    simp (decide := true) (disch := (first | assumption | (simp only [Sh_setI, Sm_setI, Sh_setL, Sm_setL]; assumption) | omega)) only [B_176_310, B_176_316, B_176_322, B_176_328, B_176_334, B_176_340, B_176_346, B_176_352, n_eqO, s1, s2, s3, s4, s5, s6, s7, s8, B_176_362, B_176_363, B_176_373, B_176_374 T, k56, hI_eq, B_176_387, bI_True, bI_False, p_max, p_min, p_abs, Option.bind_some, Option.bind_none, Option.toList_some, Option.toList_none, List.cons_append, List.nil_append, bI_eq0, bI_ne0, bI_ne1, bI_eq1, bI_01, eq_self, true_or, or_true, and_true, true_and, false_and, and_false, false_or, or_false, ite_true, ite_false, if_true, if_false, not_true, not_false_iff, Classical.not_not, nem, ite_not, ne_eq]
theorem m_next {b : Nat → Nat} {sz N : Nat} {B : am_F} (h160 : sz ≤ 160) (hB : ∀ k, k < sz → b k < 256 ∧ B k = nI (b k)) : NX (tkF b sz) (vlF b sz) (psF b sz) (stF b sz) N sz B := by
  intro d t h ht T L eB esz eps
  have H : Mb b sz h := ⟨h160, esz, fun k hk => by rw [eB]; exact hB k hk⟩
  obtain ⟨h1, e1, F1, r1⟩ := m_blanks (d := d + 8) (sz - psF b sz t) (psF b sz t) h (by have := ps_le (b := b) (sz := sz) t; omega) T H eps
  have sl := st_le (b := b) (sz := sz) t
  have es : runB isBl b (sz - psF b sz t) (psF b sz t) = stF b sz t := rfl
  rw [es] at r1
  have T1 : Sm h1 := F1.1.sm T
  have F2 : Fn h (setI (setI (setI h1 56 46 (nI (stF b sz t))) 56 47 0) 56 48 0) := ((F1.si (by omega)).si (by omega)).si (by omega)
  have T2 : Sm (setI (setI (setI h1 56 46 (nI (stF b sz t))) 56 47 0) 56 48 0) := T1.si.si.si
  have H2 := H.fn F2
  have T2' : Sm (setI (setI h1 56 46 (nI (stF b sz t))) 56 47 0) := T1.si.si
  have L2 : Lt (setI (setI (setI h1 56 46 (nI (stF b sz t))) 56 47 0) 56 48 0) := F2.1.lt (fun n q => by omega) L
  have a45 : hI (setI (setI (setI h1 56 46 (nI (stF b sz t))) 56 47 0) 56 48 0) 56 45 = nI (stF b sz t) := by
    rw [hI_eq, if_neg (by omega), hI_eq, if_neg (by omega), hI_eq, if_neg (by omega)]; exact r1
  have a46 : hI (setI (setI (setI h1 56 46 (nI (stF b sz t))) 56 47 0) 56 48 0) 56 46 = nI (stF b sz t) := by
    rw [hI_eq, if_neg (by omega), hI_eq, if_neg (by omega), hI_eq, if_pos rfl]
  have a47 : hI (setI (setI (setI h1 56 46 (nI (stF b sz t))) 56 47 0) 56 48 0) 56 47 = 0 := by
    rw [hI_eq, if_neg (by omega), hI_eq, if_pos rfl]
  have a48 : hI (setI (setI (setI h1 56 46 (nI (stF b sz t))) 56 47 0) 56 48 0) 56 48 = 0 := by
    rw [hI_eq, if_pos rfl]
  have a22 : hI (setI (setI (setI h1 56 46 (nI (stF b sz t))) 56 47 0) 56 48 0) 56 22 = nI sz := H2.2.1
  have head : Cl (d + 12) 176 [vr (some 56)] h = if nI (stF b sz t) ≠ nI sz then Ev (d + 12) 176 82 [vr (some 56), vu, vu, vu, vu] [] (setI (setI (setI h1 56 46 (nI (stF b sz t))) 56 47 0) 56 48 0) else Ev (d + 12) 176 81 [vr (some 56), vu, vu, vu, vu] [] (setI (setI (setI h1 56 46 (nI (stF b sz t))) 56 47 0) 56 48 0) := by
    rw [E_176, e1, B_176_52 T1, r1, B_176_65 T2', a45, a22]
  rw [head]
  generalize hh2 : setI (setI (setI h1 56 46 (nI (stF b sz t))) 56 47 0) 56 48 0 = h2 at *
  have ps1 : psF b sz (t + 1) = if stF b sz t < sz then endF b sz (stF b sz t) else stF b sz t := rfl
  by_cases lt : stF b sz t < sz
  · rw [if_pos lt] at ps1
    have tk1 : tkF b sz t = tokF b (stF b sz t) (endF b sz (stF b sz t)) := by unfold tkF; rw [if_pos lt]
    have vl1 : vlF b sz t = valF b (stF b sz t) (endF b sz (stF b sz t)) := by unfold vlF; rw [if_pos lt]
    unfold Nx
    rw [ps1, tk1, vl1]
    rw [if_pos (show nI (stF b sz t) ≠ nI sz from fun z => by rw [n_eq (by omega) (by omega)] at z; omega)]
    generalize stF b sz t = fr at *
    obtain ⟨el, eg⟩ := endF_le (b := b) lt
    obtain ⟨b1, b2⟩ := H2.2.2 fr lt
    have l1 := fun d => m_inL (d := d) (h := h2) b1
    have g1 := fun d => m_inD (d := d) (h := h2) b1
    by_cases a : isLt (b fr) = true
    · have eL := endL lt a
      obtain ⟨h3, w', e3, F3, g3, q45, w5, w6⟩ := m_letters (d := d + 3) (sz - fr) fr h2 0 (by omega) (Nat.le_refl _) T2 H2 a45 (fun _ => by unfold wsF; rw [Nat.sub_self]; rfl)
      rw [eL] at q45 w5 w6
      have T3 : Sm h3 := F3.1.sm T2
      have L3 : Lt h3 := F3.1.lt (fun n q => by omega) L2
      have wl : (wsF b fr (endF b sz fr)).length = endF b sz fr - fr := by unfold wsF; rw [List.length_map, List.length_range]
      have wc : ∀ c, c ∈ wsF b fr (endF b sz fr) → 1 ≤ c ∧ c < 256 := fun c hc => by
        unfold wsF at hc
        obtain ⟨k, hk, rfl⟩ := List.mem_map.mp hc
        have hk' := List.mem_range.mp hk
        have al := runB_all isLt b (sz - fr) fr (fr + k) (by omega) (by rw [eL]; omega)
        unfold isLt at al
        have := of_decide_eq_true al
        omega
      have hw := wd_iff wc (fun z => w5 (by omega)) (fun z => w6 (by omega))
      have mw := m_words (d := d + 8) T3 L3 hw (a1 := nI (b fr)) 11 0 rfl
      have tke : tokF b fr (endF b sz fr) = if mix (wsF b fr (endF b sz fr)) wdsM 0 = 11 then 2 else pmM.getD (mix (wsF b fr (endF b sz fr)) wdsM 0) 0 := by
        unfold tokF
        rw [if_pos a]
        rcases mix_wix (wsF b fr (endF b sz fr)) with ⟨z1, z2⟩ | ⟨z1, z2⟩
        · rw [z2, if_pos z1]
        · rw [z2, if_neg (by omega)]
      have mlt : mix (wsF b fr (endF b sz fr)) wdsM 0 < 12 := by
        rcases mix_wix (wsF b fr (endF b sz fr)) with ⟨z1, z2⟩ | ⟨z1, z2⟩ <;> omega
      rw [tke]
      rw [show wdsM.drop 0 = wdsM from rfl] at mw
      generalize mix (wsF b fr (endF b sz fr)) wdsM 0 = m at *
      have fin := m_word (d := d + 8) T3 mlt (a1 := nI (b fr)) (a2 := w')
      obtain ⟨z1, z2⟩ := mW_ok m mlt
      obtain ⟨y1, y2, y3, y4⟩ := mW_t m mlt
      have F4 : Fn h (setI (setI h3 56 47 (mW m)) 56 48 (vW m)) := ((F2.tr F3).si (by omega)).si (by omega)
      refine ⟨_, ?_, F4.1, F4.2, ?_, ?_, ?_, fun z => absurd z y1, fun z => ?_, fun z => ?_, fun z => ?_⟩
      rotate_left
      · rw [hI_eq, if_neg (by omega), hI_eq, if_neg (by omega)]; exact q45
      · rw [hI_eq, if_neg (by omega), hI_eq, if_neg (by omega), g3 46 (by omega)]; exact a46
      · rw [hI_eq, if_neg (by omega), hI_eq, if_pos rfl]; exact z1
      · rw [hI_eq, if_pos rfl]; exact y2 z
      · rw [hI_eq, if_pos rfl]; exact y3 z
      · rw [hI_eq, if_pos rfl]; exact y4 z
      · rw [Nat.sub_self] at e3
        rw [show nI 0 = (0 : Int32) from rfl] at e3 mw
        simp (decide := true) (disch := (first | assumption | (simp only [Sh_setI, Sm_setI, Sh_setL, Sm_setL]; assumption) | omega)) only [B_176_82 T2, a45, n_ix, n_cl, b2, l1, a, B_176_100, B_176_103 T2, E_177, B_177_0, e3, B_176_107, mw, fin, bI_True, bI_False, p_max, p_min, p_abs, Option.bind_some, Option.bind_none, Option.toList_some, Option.toList_none, List.cons_append, List.nil_append, bI_eq0, bI_ne0, bI_ne1, bI_eq1, bI_01, eq_self, true_or, or_true, and_true, true_and, false_and, and_false, false_or, or_false, ite_true, ite_false, if_true, if_false, not_true, not_false_iff, Classical.not_not, nem, ite_not, ne_eq]
    · by_cases g : isDg (b fr) = true
      · have eD := endD lt g
        obtain ⟨h3, e3, F3, g3, q45, q48⟩ := m_digits (d := d + 4) (a1 := nI (b fr)) (sz - fr) fr h2 (by omega) (Nat.le_refl _) T2 H2 a45 (fun q z1 z2 => absurd z1 (by omega)) (fun _ => by rw [Nat.sub_self]; exact a48)
        rw [eD] at q45 q48 e3
        have T3 : Sm h3 := F3.1.sm T2
        have k56 : hkd h3 56 = 11 := T3.kd (n := 56) (k := 11) rfl rfl
        have vle : valF b fr (endF b sz fr) = if endF b sz fr - fr ≤ 4 then numF b (endF b sz fr - fr) fr 0 else 0 := by
          unfold valF
          by_cases n4 : endF b sz fr - fr ≤ 4
          · rw [if_pos ⟨g, n4⟩, if_pos n4]
          · rw [if_neg (fun z => n4 z.2), if_neg n4]
        have tke : tokF b fr (endF b sz fr) = if endF b sz fr - fr ≤ 4 then 1 else 2 := by
          unfold tokF
          rw [if_neg a, if_pos g]
        rw [tke, vle]
        rw [Nat.sub_self] at e3
        rw [show nI 0 = (0 : Int32) from rfl] at e3
        by_cases n4 : endF b sz fr - fr ≤ 4
        · rw [if_pos n4, if_pos n4]
          have F4 : Fn h (setI h3 56 47 1) := (F2.tr F3).si (by omega)
          refine ⟨_, ?_, F4.1, F4.2, ?_, ?_, ?_, fun z => ?_, fun z => ?_, fun z => ?_, fun z => ?_⟩
          rotate_left
          · rw [hI_eq, if_neg (by omega)]; exact q45
          · rw [hI_eq, if_neg (by omega), g3 46 (by omega) (by omega)]; exact a46
          · rw [hI_eq, if_pos rfl]; rfl
          · rw [hI_eq, if_neg (by omega)]; exact q48 n4
          · omega
          · omega
          · omega
          · simp (decide := true) (disch := (first | assumption | (simp only [Sh_setI, Sm_setI, Sh_setL, Sm_setL]; assumption) | omega)) only [B_176_82 T2, a45, n_ix, n_cl, b2, l1, a, B_176_100, B_176_201, g1, g, B_176_209, B_176_212, e3, B_176_293, n_leO, n4, B_176_303, B_176_304, k56, B_176_387, bI_True, bI_False, p_max, p_min, p_abs, Option.bind_some, Option.bind_none, Option.toList_some, Option.toList_none, List.cons_append, List.nil_append, bI_eq0, bI_ne0, bI_ne1, bI_eq1, bI_01, eq_self, true_or, or_true, and_true, true_and, false_and, and_false, false_or, or_false, ite_true, ite_false, if_true, if_false, not_true, not_false_iff, Classical.not_not, nem, ite_not, ne_eq]
        · rw [if_neg n4, if_neg n4]
          have F4 : Fn h (setI h3 56 47 (-1)) := (F2.tr F3).si (by omega)
          refine ⟨_, ?_, F4.1, F4.2, ?_, ?_, ?_, fun z => ?_, fun z => ?_, fun z => ?_, fun z => ?_⟩
          rotate_left
          · rw [hI_eq, if_neg (by omega)]; exact q45
          · rw [hI_eq, if_neg (by omega), g3 46 (by omega) (by omega)]; exact a46
          · rw [hI_eq, if_pos rfl]; rfl
          · omega
          · omega
          · omega
          · omega
          · simp (decide := true) (disch := (first | assumption | (simp only [Sh_setI, Sm_setI, Sh_setL, Sm_setL]; assumption) | omega)) only [B_176_82 T2, a45, n_ix, n_cl, b2, l1, a, B_176_100, B_176_201, g1, g, B_176_209, B_176_212, e3, B_176_293, n_leO, n4, B_176_299, B_176_304, k56, B_176_387, bI_True, bI_False, p_max, p_min, p_abs, Option.bind_some, Option.bind_none, Option.toList_some, Option.toList_none, List.cons_append, List.nil_append, bI_eq0, bI_ne0, bI_ne1, bI_eq1, bI_01, eq_self, true_or, or_true, and_true, true_and, false_and, and_false, false_or, or_false, ite_true, ite_false, if_true, if_false, not_true, not_false_iff, Classical.not_not, nem, ite_not, ne_eq]
      · have ee : endF b sz fr = fr + 1 := by unfold endF; rw [if_neg a, if_neg g]
        have tke : tokF b fr (endF b sz fr) = sgC (b fr) := by unfold tokF; rw [if_neg a, if_neg g]
        have sc : sgC (b fr) ≠ 1 ∧ sgC (b fr) < 128 := by
          unfold sgC
          split
          · rename_i s; exact (sg_tk s).2
          · omega
        have ms' := m_signs (d := d + 8) T2 b1
        rw [a45] at ms'
        rw [tke, ee]
        have F4 : Fn h (setI (setI h2 56 47 (mTk (sgC (b fr)))) 56 45 (nI fr + 1)) := (F2.si (by omega)).si (by omega)
        refine ⟨_, ?_, F4.1, F4.2, ?_, ?_, ?_, fun z => ?_, fun z => ?_, fun z => ?_, fun z => ?_⟩
        rotate_left
        · rw [hI_eq, if_pos rfl]; exact n_addO
        · rw [hI_eq, if_neg (by omega), hI_eq, if_neg (by omega)]; exact a46
        · rw [hI_eq, if_neg (by omega), hI_eq, if_pos rfl]
        · omega
        · omega
        · omega
        · omega
        · simp (decide := true) (disch := (first | assumption | (simp only [Sh_setI, Sm_setI, Sh_setL, Sm_setL]; assumption) | omega)) only [B_176_82 T2, a45, n_ix, n_cl, b2, l1, a, B_176_100, B_176_201, g1, g, B_176_209, ms', bI_True, bI_False, p_max, p_min, p_abs, Option.bind_some, Option.bind_none, Option.toList_some, Option.toList_none, List.cons_append, List.nil_append, bI_eq0, bI_ne0, bI_ne1, bI_eq1, bI_01, eq_self, true_or, or_true, and_true, true_and, false_and, and_false, false_or, or_false, ite_true, ite_false, if_true, if_false, not_true, not_false_iff, Classical.not_not, nem, ite_not, ne_eq]
  · rw [if_neg lt] at ps1
    have ez : stF b sz t = sz := by omega
    have t0 : tkF b sz t = 0 := by unfold tkF; rw [if_neg lt]
    rw [if_neg (fun z => z (by rw [ez])), B_176_81]
    refine ⟨h2, rfl, F2.1, F2.2, by rw [ps1]; exact a45, a46, by rw [t0]; exact a47, fun z => ?_, fun z => ?_, fun z => ?_, fun z => ?_⟩ <;> (rw [t0] at z; omega)
end NEXT
