/-! start: the class's constructor ends -/
section CTORD
variable {d : Nat}
theorem c_appRule : ∀ (j i : Nat) (h : am_H), i + j = 59 → Sh h → Ls h → hI h 11 1 = nI i → ∃ h1, Ev (d + 20) 8 2 [vr (some 11), vr (some 1000000), vi (nI i)] [] h = some (none, h1) ∧ Fi (fun a => a = 11 ∨ a = 12) h h1 ∧ hI h1 11 1 = nI 59 ∧ ∀ k, hI h1 12 k = if i ≤ k ∧ k < 59 then nI (frB k) else hI h 12 k := by
  intro j
  induction j with
  | zero =>
    intro i h e S LS q
    have k2 := (lit_env S (show 0 < 14 by omega)).1
    have cl := fun d => c_len (d := d) S LS (show 0 < 14 by omega) (by decide)
    rw [show am_sl.getD 0 0 = 59 by decide, show 1000000 + 2 * 0 = 1000000 from rfl] at cl
    rw [show 1000000 + 2 * 0 = 1000000 from rfl] at k2
    refine ⟨h, ?_, Fi.rf, by rw [q, show i = 59 by omega], fun k => by rw [if_neg (by omega)]⟩
    rw [B_8_2]
    simp (decide := true) (disch := (first | assumption | (simp only [Sh_setI, Sm_setI, Sh_setL, Sm_setL]; assumption) | omega)) only [k2, cl, B_8_7, n_le, show 59 ≤ i by omega, B_8_47, bI_True, bI_False, p_max, p_min, p_abs, Option.bind_some, Option.bind_none, Option.toList_some, Option.toList_none, List.cons_append, List.nil_append, bI_eq0, bI_ne0, bI_ne1, bI_eq1, bI_01, eq_self, true_or, or_true, and_true, true_and, false_and, and_false, false_or, or_false, ite_true, ite_false, if_true, if_false, not_true, not_false_iff, Classical.not_not, nem, ite_not, ne_eq]
  | succ j ih =>
    intro i h e S LS q
    have k2 := (lit_env S (show 0 < 14 by omega)).1
    have cl := fun d => c_len (d := d) S LS (show 0 < 14 by omega) (by decide)
    rw [show am_sl.getD 0 0 = 59 by decide, show 1000000 + 2 * 0 = 1000000 from rfl] at cl
    rw [show 1000000 + 2 * 0 = 1000000 from rfl] at k2
    have S1 : Sh (setI h 11 1 (nI (i + 1))) := S.si
    have F1 : Fi (fun a => a = 11 ∨ a = 12) h (setI h 11 1 (nI (i + 1))) := Fi.rf.si (Or.inl rfl)
    have ls : ∀ h', Fi (fun a => a = 11 ∨ a = 12) h h' → Ls h' := fun h' F a b ha hb => ⟨by rw [F.2.2.2.2.2 _ (by omega)]; exact (LS a b ha hb).1, by rw [F.2.2.2.2.2 _ (by omega)]; exact (LS a b ha hb).2⟩
    have k3 := (lit_env S1 (show 0 < 14 by omega)).1
    rw [show 1000000 + 2 * 0 = 1000000 from rfl] at k3
    have ch := fun d => c_charAt (d := d) (c := frB i) S1 (ls _ F1) (show 0 < 14 by omega) (j := i) (by show i < 59; omega) (by decide) (fr_c i (by omega)).1 (fr_c i (by omega)).2
    rw [show 1000000 + 2 * 0 = 1000000 from rfl] at ch
    have k12 : hkd (setI h 11 1 (nI (i + 1))) 12 = 100 := S1.kd (n := 12) (k := 100) rfl rfl
    have l12 : hln (setI h 11 1 (nI (i + 1))) 12 = 160 := S1.ln (n := 12) (k := 160) rfl rfl
    obtain ⟨h1, e1, F2, r1, r2⟩ := ih (i + 1) (setI (setI h 11 1 (nI (i + 1))) 12 i (nI (frB i))) (by omega) S1.si (ls _ (F1.si (Or.inr rfl))) (by rw [hI_ne (by omega), hI_eq, if_pos rfl])
    refine ⟨h1, ?_, (F1.si (Or.inr rfl)).tr F2, r1, fun k => ?_⟩
    · rw [B_8_2]
      simp (decide := true) (disch := (first | assumption | (simp only [Sh_setI, Sm_setI, Sh_setL, Sm_setL]; assumption) | omega)) only [k2, cl, B_8_7, n_le, show ¬ 59 ≤ i by omega, B_8_10 S, q, n_Ole, show ¬ 160 ≤ i by omega, B_8_20 S, n_addO, k3, ch, B_8_40, k12, l12, n_ix, n_cl, bI_True, bI_False, p_max, p_min, p_abs, Option.bind_some, Option.bind_none, Option.toList_some, Option.toList_none, List.cons_append, List.nil_append, bI_eq0, bI_ne0, bI_ne1, bI_eq1, bI_01, eq_self, true_or, or_true, and_true, true_and, false_and, and_false, false_or, or_false, ite_true, ite_false, if_true, if_false, not_true, not_false_iff, Classical.not_not, nem, ite_not, ne_eq]
      exact e1
    · rw [r2, hI_eq, hI_ne (by omega)]
      by_cases z : k = i
      · rw [if_neg (by omega), if_pos z, if_pos (by omega), z]
      · rw [if_neg z]
        by_cases y : i + 1 ≤ k ∧ k < 59
        · rw [if_pos y, if_pos (by omega)]
        · rw [if_neg y, if_neg (by omega)]
theorem ctor_d0 {h : am_H} (S : Sh h) (LS : Ls h) (k0 : hk h = 52) (i11 : hI h 11 1 = nI 0) : ∃ h1, Ev (d + 90) 1 152 [vr (some 1), vi 4] [] h = some (none, h1) ∧ Kx 3 h h1 ∧ (∀ a, 2 ≤ a → a ≤ 52 → a ≠ 11 → a ≠ 12 → scrC a = false → hI h1 a = hI h a) ∧ (∀ j, hI h1 1 j = if j = 11 then 1 else hI h 1 j) ∧ hI h1 11 1 = 0 ∧ hR h1 17 0 = some 53 ∧ (hkd h1 53 = 7 ∧ hkd h1 54 = 100 ∧ hkd h1 55 = 100) ∧ (hln h1 54 = 14 ∧ hln h1 55 = 14) ∧ (hR h1 53 0 = some 54 ∧ hR h1 53 1 = some 55) ∧ hI h1 53 2 = nI 7 ∧ ∀ k o, (frA ++ frC)[k]? = some o → hI h1 54 k = encC o := by
  obtain ⟨h2, e2, F2, q11, q12⟩ := c_appRule (d := d + 69) 59 0 h rfl S LS i11
  have S2 := F2.sh S
  have LS2 : Ls h2 := fun a b ha hb => ⟨by rw [F2.2.2.2.2.2 _ (by omega)]; exact (LS a b ha hb).1, by rw [F2.2.2.2.2.2 _ (by omega)]; exact (LS a b ha hb).2⟩
  have H : Bt frB 59 h2 := ⟨by omega, q11, fun k hk => ⟨Nat.lt_trans (fr_c k hk).2 (by decide), by rw [q12, if_pos (by omega)]⟩⟩
  have hT0 : ∀ t, 18 ≤ t → tkF frB 59 t = 0 := fun t ht => by
    have := st_end2 fr_n.2 (t - 18)
    rw [show 18 + (t - 18) = t by omega] at this
    unfold tkF
    rw [if_neg this]
  obtain ⟨hc, Fc, -, ok, -⟩ := c_read (d := d + 13) S2 LS2 H (show 18 ≤ 59 by omega) (fun k hk => (fr_n.1 k hk).1) fr_n.2 hT0 frP1 (fun _ => frP2)
  obtain ⟨e9, Co2⟩ := ok ⟨rfl, rfl, hT0 18 (Nat.le_refl _)⟩
  have Sc := Fc.sh S2
  have kc : hk hc = 52 := by rw [hk, Fc.1, F2.1]; exact k0
  have kc2 : hs hc = hs h := by rw [hs, Fc.1, F2.1]; rfl
  obtain ⟨hf, e10, Kf, x1, x17, ⟨k1, k2, k3⟩, ⟨l1, l2⟩, ⟨r1, r2⟩, i2, cp⟩ := c_newText (d := d + 81) Sc (by omega) (by omega) (len := 14) (a := 7) (by omega) Co2.1
  have S3 : Sh hf := Kf.sh Sc (by omega) (by omega)
  have kf : hk hf = 55 := by rw [Kf.1, kc]
  rw [kc] at e10 x1 k1 k2 k3 l1 l2 r1 r2 i2 cp
  have S4 : Sh (setI (setR hf 17 0 (some 53)) 1 11 1) := Sh_setR S3 (by omega)
  have k53 : hkd hf 53 = 7 := k1
  have e2' : Ev (d + 89) 8 2 [vr (some 11), vr (some 1000000), vi 0] [] h = some (none, h2) := e2
  have e10' : Ev (d + 89) 9 61 [vr (some 10), vi (nI 7)] [] hc = some (some (vr (some 53)), hf) := e10
  have e9' : Cl (d + 89) 9 [vr (some 10)] h2 = some (some (vr (some 53)), hf) := e9.trans e10'
  refine ⟨setI (setI (setR hf 17 0 (some 53)) 1 11 1) 11 1 0, ?_, ?_, fun a a1 a2 a3 a4 a5 => ?_, fun j => ?_, ?_, ?_, ⟨k1, k2, k3⟩, ⟨l1, l2⟩, ⟨?_, ?_⟩, ?_, fun k o z => ?_⟩
  · simp (decide := true) (disch := (first | assumption | (simp only [Sh_setI, Sm_setI, Sh_setL, Sm_setL]; assumption) | omega)) only [B_1_152, S.kd (n := 1) (k := 0) rfl rfl, S.rf (n := 1) (f := 9) (k := 11) rfl rfl, S.kd (n := 11) (k := 3) rfl rfl, E_8, B_8_0, e2', B_1_161, S2.kd (n := 1) (k := 0) rfl rfl, S2.rf (n := 1) (f := 8) (k := 10) rfl rfl, S2.rf (n := 1) (f := 10) (k := 17) rfl rfl, S2.kd (n := 10) (k := 2) rfl rfl, e9', B_1_173, S3.kd (n := 17) (k := 117) rfl rfl, S3.ln (n := 17) (k := 6) rfl rfl, k53, n_ixO, n_clO, xkd_setR, S3.kd (n := 1) (k := 0) rfl rfl, B_1_179, S4.kd (n := 1) (k := 0) rfl rfl, S4.rf (n := 1) (f := 9) (k := 11) rfl rfl, S4.kd (n := 11) (k := 3) rfl rfl, E_32, B_32_0 S4, B_1_186, bI_True, bI_False, p_max, p_min, p_abs, Option.bind_some, Option.bind_none, Option.toList_some, Option.toList_none, List.cons_append, List.nil_append, bI_eq0, bI_ne0, bI_ne1, bI_eq1, bI_01, eq_self, true_or, or_true, and_true, true_and, false_and, and_false, false_or, or_false, ite_true, ite_false, if_true, if_false, not_true, not_false_iff, Classical.not_not, nem, ite_not, ne_eq]
  · have K1 : Kx 3 hc (setI (setI (setR hf 17 0 (some 53)) 1 11 1) 11 1 0) := ((Kf.r17).si (by omega)).si (by omega)
    have F3 : Fi (fun a => a = 11 ∨ a = 12 ∨ a = 10 ∨ a = 13 ∨ a = 14 ∨ a = 15 ∨ a = 16) h hc := (F2.mono (fun n q => by omega)).tr (Fc.mono (fun n q => by omega))
    obtain ⟨m1, m2, m3, m4⟩ := K1
    rw [kc] at m1 m3 m4
    rw [kc2] at m2
    refine ⟨by rw [m1, k0], m2, fun a q => ?_, fun a q1 q2 q3 => ?_⟩
    · rw [k0] at q
      obtain ⟨n1, n2, n3, n4⟩ := m3 a q
      exact ⟨n1.trans (by rw [F3.2.1]), n2.trans (by rw [F3.2.2.1]), n3.trans (by rw [F3.2.2.2.2.1]), fun z => (n4 z).trans (by rw [F3.2.2.2.1])⟩
    · rw [k0] at q3
      rw [m4 a q1 q2 q3]
      exact F3.2.2.2.2.2 a (by omega)
  · have sc : a ≠ 10 ∧ a ≠ 13 ∧ a ≠ 14 ∧ a ≠ 15 ∧ a ≠ 16 := by
      refine ⟨?_, ?_, ?_, ?_, ?_⟩ <;> (rintro rfl; exact absurd a5 (by decide))
    rw [hI_ne a3, hI_ne (by omega), xI_setR, x1 a (by omega), Fc.2.2.2.2.2 a (by omega), F2.2.2.2.2.2 a (by omega)]
  · rw [hI_ne (by omega), hI_eq, xI_setR, x1 1 (by omega), Fc.2.2.2.2.2 1 (by omega), F2.2.2.2.2.2 1 (by omega)]
  · rw [hI_eq, if_pos rfl]
  · rw [xR_setI, xR_setI, hR_eq, if_pos ⟨rfl, rfl⟩]
  · rw [xR_setI, xR_setI, hR_ne (by omega)]; exact r1
  · rw [xR_setI, xR_setI, hR_ne (by omega)]; exact r2
  · rw [hI_ne (by omega), hI_ne (by omega), xI_setR]; exact i2
  · have kl := (List.getElem?_eq_some_iff.mp z).1
    rw [hI_ne (by omega), hI_ne (by omega), xI_setR]
    exact (cp k kl).trans (Co2.2 k o z)
theorem a_11 {L : Nat} {xs : Nat → Int32} : hI (ap ev_a57 (am_h0 L xs)) 11 1 = nI 0 := by rw [ap_I (by decide)]; decide +kernel
theorem ctor_d {L : Nat} {xs : Nat → Int32} : ∃ h1, Ev (d + 90) 1 152 [vr (some 1), vi 4] [] (ap ev_a57 (am_h0 L xs)) = some (none, h1) ∧ Kx 3 (ap ev_a57 (am_h0 L xs)) h1 ∧ (∀ a, 2 ≤ a → a ≤ 52 → a ≠ 11 → a ≠ 12 → scrC a = false → hI h1 a = hI (ap ev_a57 (am_h0 L xs)) a) ∧ (∀ j, hI h1 1 j = if j = 11 then 1 else hI (ap ev_a57 (am_h0 L xs)) 1 j) ∧ hI h1 11 1 = 0 ∧ hR h1 17 0 = some 53 ∧ (hkd h1 53 = 7 ∧ hkd h1 54 = 100 ∧ hkd h1 55 = 100) ∧ (hln h1 54 = 14 ∧ hln h1 55 = 14) ∧ (hR h1 53 0 = some 54 ∧ hR h1 53 1 = some 55) ∧ hI h1 53 2 = nI 7 ∧ ∀ k o, (frA ++ frC)[k]? = some o → hI h1 54 k = encC o := ctor_d0 Sh_a Ls_a a_hk a_11
end CTORD
