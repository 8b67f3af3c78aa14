/-! the law -/
theorem sb_new {h : am_H} (k1 : hk h = 55) : Sb (newc h 11 0 61) hB := by
  refine ⟨by rw [hk_newc, k1]; rfl, fun n n1 n2 => ?_⟩
  rw [hk_newc, k1] at n2
  have e : n = hk h + 1 := by omega
  rw [hkd_newc, hln_newc, if_pos e, if_pos e]
  refine ⟨rfl, rfl, funext fun j => ?_, funext fun j => ?_, funext fun j => ?_⟩
  · rw [hI_newc, if_pos e]; rfl
  · rw [hL_newc, if_pos e]; rfl
  · rw [hR_newc, if_pos e]; rfl
theorem st351 {d : Nat} {g : am_H} (K : hkd g 56 = 11) (T : Sm (setR g 56 55 (some 88))) : Ev (d + 90) 145 351 [vr (some 56), vu] [vr (some 88), vr (some 56)] g = Ev (d + 90) 145 364 [vr (some 56), vu] [] (setI (setI (setI (setR g 56 55 (some 88)) 74 0 0) 74 1 100050) 74 2 14) := by
  have c0 : ∀ d, Cl (d + 4) 146 [vr (some 56), vi 0, vi 0, vi 100050, vi 14] (setR g 56 55 (some 88)) = some (none, setI (setI (setI (setR g 56 55 (some 88)) 74 0 0) 74 1 100050) 74 2 14) := fun d => m_146 T (k := 0) (by omega)
  simp (decide := true) (disch := (first | assumption | (simp only [Sh_setI, Sm_setI, Sh_setL, Sm_setL]; assumption) | omega)) only [B_145_351, K, xkd_setR, c0, bI_True, bI_False, p_max, p_min, p_abs, Option.bind_some, Option.bind_none, Option.toList_some, Option.toList_none, List.cons_append, List.nil_append, bI_eq0, bI_ne0, bI_ne1, bI_eq1, bI_01, eq_self, true_or, or_true, and_true, true_and, false_and, and_false, false_or, or_false, ite_true, ite_false, if_true, if_false, not_true, not_false_iff, Classical.not_not, nem, ite_not, ne_eq]
theorem x_eq {g : am_H} : ap ev_bX g = setR (ap ev_b41 g) 56 55 (some 88) := rfl
theorem b41_kd {g : am_H} (B : Sb g hB) : hkd (ap ev_b41 g) 56 = 11 := (bp B (by decide +kernel) (by decide +kernel)).1.trans (by decide +kernel)
theorem mdl0 {d : Nat} {g p X h2 : am_H} (e0 : Ev (d + 90) 145 0 [vr (some 56), vu] [] g = Ev (d + 90) 145 351 [vr (some 56), vu] [vr (some 88), vr (some 56)] p) (ex : X = setR p 56 55 (some 88)) (K : hkd p 56 = 11) (T : Sm X) (e : Ev (d + 90) 145 364 [vr (some 56), vu] [] (setI (setI (setI X 74 0 0) 74 1 100050) 74 2 14) = some (none, h2)) : Cl (d + 90) 145 [vr (some 56)] g = some (none, h2) := by
  subst ex
  rw [E_145, e0, st351 K T]
  exact e
theorem ctor_b0 {d : Nat} {g : am_H} (B : Sb g hB) : Ev (d + 90) 145 0 [vr (some 56), vu] [] g = Ev (d + 90) 145 351 [vr (some 56), vu] [vr (some 88), vr (some 56)] (ap ev_b41 g) := ctor_b B
theorem mdl {d : Nat} {g : am_H} (B : Sb g hB) : ∃ h1, Cl (d + 90) 145 [vr (some 56)] g = some (none, h1) ∧ Fi (fun a => a = 71 ∨ a = 74 ∨ a = 75) (ap ev_bX g) h1 ∧ (∀ k, hI h1 71 k = if k < 40 then -1 else hI (ap ev_bX g) 71 k) ∧ (hI h1 75 0 = hI (ap ev_bX g) 75 0 ∧ hI h1 75 1 = nI 7 ∧ hI h1 75 2 = nI 14) ∧ ∀ k o, (frA ++ frC)[k]? = some o → hI h1 74 k = encM o := by
  obtain ⟨h1, e, r⟩ := ctor_g (d := d) (Sm_x B)
  exact ⟨h1, mdl0 (ctor_b0 B) x_eq (b41_kd B) (Sm_x B) e, r⟩
theorem tie {d : Nat} {a h1 h2 h3 : am_H} (e1 : Cl (d + 83) 1 [vr (some 1)] a = some (none, h1)) (k1 : hk h1 = 55) (e2 : Cl (d + 83) 145 [vr (some 56)] (newc h1 11 0 61) = some (none, h2)) (e3 : Ev (d + 84) 0 18 [vr (some 0), vr (some 1), vr (some 56), vi 0] [] h2 = some (some (vi 1), h3)) : Ev (d + 84) 0 3 [vr (some 0), vu, vu, vu] [vr (some 1)] a = some (some (vi 1), h3) := by
  simp (decide := true) (disch := (first | assumption | (simp only [Sh_setI, Sm_setI, Sh_setL, Sm_setL]; assumption) | omega)) only [B_0_3, e1, B_0_7, k1, B_0_11, e2, B_0_15, e3, bI_True, bI_False, p_max, p_min, p_abs, Option.bind_some, Option.bind_none, Option.toList_some, Option.toList_none, List.cons_append, List.nil_append, bI_eq0, bI_ne0, bI_ne1, bI_eq1, bI_01, eq_self, true_or, or_true, and_true, true_and, false_and, and_false, false_or, or_false, ite_true, ite_false, if_true, if_false, not_true, not_false_iff, Classical.not_not, nem, ite_not, ne_eq]
theorem tie0 {d L : Nat} {xs : Nat → Int32} : Ev (d + 84) 0 0 [vr (some 0), vu, vu, vu] [] (am_h0 L xs) = Ev (d + 84) 0 3 [vr (some 0), vu, vu, vu] [vr (some 1)] (ap ev_a1 (am_h0 L xs)) := (B_0_0 (d := d + 80)).trans (if_pos (show (0 : Nat) < 900000 by decide))
theorem a1_ln {L : Nat} {xs : Nat → Int32} : hln (ap ev_a1 (am_h0 L xs)) 0 = L := by
  show (if 0 = hk (am_h0 L xs) + 1 then 0 else L) = L
  rw [if_neg (by omega)]
theorem a_0 {L : Nat} {xs : Nat → Int32} : hkd (ap ev_a57 (am_h0 L xs)) 0 = 901 := by rw [ap_kd]; decide +kernel
theorem a_ints {L : Nat} {xs : Nat → Int32} : (∀ f, f < 20 → f ≠ 11 → hI (ap ev_a57 (am_h0 L xs)) 1 f = 0) ∧ hI (ap ev_a57 (am_h0 L xs)) 2 2 = 0 ∧ (∀ k, k < 5 → hI (ap ev_a57 (am_h0 L xs)) 3 k = 0 ∧ hI (ap ev_a57 (am_h0 L xs)) 5 k = 0 ∧ hI (ap ev_a57 (am_h0 L xs)) 6 k = 0) ∧ hI (ap ev_a57 (am_h0 L xs)) 35 0 = 0 ∧ (∀ k, k < 3 → hI (ap ev_a57 (am_h0 L xs)) 33 k = 0) ∧ ∀ s, s < 4 → hI (ap ev_a57 (am_h0 L xs)) (45 + 2 * s) 1 = -1 ∧ hI (ap ev_a57 (am_h0 L xs)) (45 + 2 * s) 2 = 0 := by
  obtain ⟨y1, y2, y3, y4, y5, y6⟩ := y_1
  exact ⟨fun f q z => (ap_I (by omega)).trans (y1 f q z), (ap_I (by omega)).trans y2, fun k q => ⟨(ap_I (by omega)).trans (y3 k q).1, (ap_I (by omega)).trans (y3 k q).2.1, (ap_I (by omega)).trans (y3 k q).2.2⟩, (ap_I (by omega)).trans y4, fun k q => (ap_I (by omega)).trans (y5 k q), fun s q => ⟨(ap_I (by omega)).trans (y6 s q).1, (ap_I (by omega)).trans (y6 s q).2⟩⟩
theorem b_ints {g : am_H} (B : Sb g hB) : (∀ f, f < 44 → hI (ap ev_bX g) 56 f = if f = 25 then 1 else 0) ∧ (∀ k, k < 5 → hI (ap ev_bX g) 57 k = 0) ∧ (∀ k, k < 10 → hI (ap ev_bX g) 58 k = 0) ∧ (∀ k, k < 40 → hI (ap ev_bX g) 72 k = 0) ∧ (∀ s, s < 4 → hI (ap ev_bX g) 82 s = -1 ∧ hI (ap ev_bX g) 83 s = 0) ∧ (∀ k, k < 11 → hL (ap ev_bX g) 85 k = wdL.getD k 0) ∧ hI (ap ev_bX g) 75 0 = 0 := by
  have up := fun n (w : 56 ≤ n ∧ n ≤ 88) => bp B x_mid (n := n) (by rw [x_hkB]; exact w)
  rw [(up 56 (by omega)).2.2.1, (up 57 (by omega)).2.2.1, (up 58 (by omega)).2.2.1, (up 72 (by omega)).2.2.1, (up 82 (by omega)).2.2.1, (up 83 (by omega)).2.2.1, (up 85 (by omega)).2.2.2.1, (up 75 (by omega)).2.2.1]
  exact y_2
theorem x_hs {g : am_H} : hs (ap ev_bX g) = hs g + hs (ap ev_bX hB) := hs_ap (h' := hB) rfl ev_bX x_mid
