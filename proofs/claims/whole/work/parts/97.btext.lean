/-! text: the call -/
theorem Kx.si {k : Nat} {h h' : am_H} (K : Kx k h h') {n i : Nat} {v : Int32} (q : (1 ≤ n ∧ n ≤ 52) ∨ (56 ≤ n ∧ n ≤ 88)) : Kx k h (setI h' n i v) := ⟨K.1, K.2.1, K.2.2.1, fun a q1 q2 q3 => by rw [hI_ne (by omega)]; exact K.2.2.2 a q1 q2 q3⟩
theorem Kx.r17 {k : Nat} {h h' : am_H} (K : Kx k h h') {i : Nat} {v : Option Nat} : Kx k h (setR h' 17 i v) := ⟨K.1, K.2.1, fun a q => ⟨(K.2.2.1 a q).1, (K.2.2.1 a q).2.1, (K.2.2.1 a q).2.2.1, fun z => by rw [hR_ne z]; exact (K.2.2.1 a q).2.2.2 z⟩, K.2.2.2⟩
theorem Kx.fi {k : Nat} {P : Nat → Prop} {h h' h'' : am_H} (K : Kx k h h') (F : Fi P h' h'') (w : ∀ n, P n → (1 ≤ n ∧ n ≤ 52) ∨ (56 ≤ n ∧ n ≤ 88)) : Kx k h h'' := by
  obtain ⟨f1, f2, f3, f4, f5, f6⟩ := F
  refine ⟨by rw [hk, f1]; exact K.1, by rw [hs, f1]; exact K.2.1, fun a q => ⟨by rw [f2]; exact (K.2.2.1 a q).1, by rw [f3]; exact (K.2.2.1 a q).2.1, by rw [f5]; exact (K.2.2.1 a q).2.2.1, fun z => by rw [f4]; exact (K.2.2.1 a q).2.2.2 z⟩, fun a q1 q2 q3 => by
    rw [f6 a (fun z => by have := w a z; omega)]
    exact K.2.2.2 a q1 q2 q3⟩
theorem Kx.rf {h : am_H} : Kx 0 h h := ⟨rfl, Nat.le_add_right _ _, fun _ _ => ⟨rfl, rfl, rfl, fun _ => rfl⟩, fun _ _ _ _ => rfl⟩
theorem Kx.sh {k : Nat} {h h' : am_H} (K : Kx k h h') (S : Sh h) (h8 : 52 ≤ hk h) (hb : hk h + k < 900000) : Sh h' := by
  obtain ⟨k1, k2, k3, k4⟩ := K
  refine ⟨by omega, fun n q => ?_, fun n f q => ?_⟩
  · have w := kd0_cl n q
    rw [(k3 n (by omega)).1, (k3 n (by omega)).2.1]
    exact S.2.1 n q
  · have w := rf0_cl n f q
    rw [(k3 n (by omega)).2.2.2 (by omega)]
    exact S.2.2 n f q
section TXT3
variable {d : Nat} {h : am_H}
theorem Sh_newc2 (S : Sh h) (h8 : 52 ≤ hk h) (hb : hk h < 900000) {a b c : Nat} : Sh (newc h a b c) := by
  refine ⟨by rw [hk_newc]; omega, fun n q => ?_, fun n f q => ?_⟩
  · have w := kd0_cl n q
    rw [hkd_newc, hln_newc, if_neg (by omega), if_neg (by omega)]
    exact S.2.1 n q
  · have w := rf0_cl n f q
    rw [hR_newc, if_neg (by omega)]
    exact S.2.2 n f q
theorem c_newText (S : Sh h) (h8 : 52 ≤ hk h) (hb : hk h < 800000) {len a : Nat} (hl : len ≤ 160) (q3 : hI h 10 3 = nI len) : ∃ hf, Ev (d + 8) 9 61 [vr (some 10), vi (nI a)] [] h = some (some (vr (some (hk h + 1))), hf) ∧ Kx 3 h hf ∧ (∀ x, x ≤ hk h → hI hf x = hI h x) ∧ hR hf 17 = hR h 17 ∧ (hkd hf (hk h + 1) = 7 ∧ hkd hf (hk h + 2) = 100 ∧ hkd hf (hk h + 3) = 100) ∧ (hln hf (hk h + 2) = len ∧ hln hf (hk h + 3) = len) ∧ (hR hf (hk h + 1) 0 = some (hk h + 2) ∧ hR hf (hk h + 1) 1 = some (hk h + 3)) ∧ hI hf (hk h + 1) 2 = nI a ∧ ∀ k, k < len → hI hf (hk h + 2) k = hI h 16 k := by
  generalize hn : hk h = n0 at h8 hb
  obtain ⟨ha, ea⟩ : ∃ x, newc h 7 0 4 = x := ⟨_, rfl⟩
  have a1 : hk ha = n0 + 1 := by rw [← ea, hk_newc, hn]
  have a2 : hs ha = hs h + 4 := by rw [← ea]; rfl
  have a3 : ∀ x, hkd ha x = if x = n0 + 1 then 7 else hkd h x := fun x => by rw [← ea, hkd_newc, hn]
  have a4 : ∀ x, hln ha x = if x = n0 + 1 then 0 else hln h x := fun x => by rw [← ea, hln_newc, hn]
  have a5 : ∀ x, x ≠ n0 + 1 → hI ha x = hI h x := fun x q => by rw [← ea, hI_newN (by omega)]
  have a6 : ∀ x, x ≠ n0 + 1 → hL ha x = hL h x := fun x q => by rw [← ea, hL_newN (by omega)]
  have a7 : ∀ x, x ≠ n0 + 1 → hR ha x = hR h x := fun x q => by rw [← ea, hR_newN (by omega)]
  obtain ⟨hb', eb⟩ : ∃ x, newc ha 100 len len = x := ⟨_, rfl⟩
  have b1 : hk hb' = n0 + 2 := by rw [← eb, hk_newc, a1]
  have b2 : hs hb' = hs h + 4 + len := by rw [← eb, hs_newc, a2]
  have b3 : ∀ x, hkd hb' x = if x = n0 + 2 then 100 else hkd ha x := fun x => by rw [← eb, hkd_newc, a1]
  have b4 : ∀ x, hln hb' x = if x = n0 + 2 then len else hln ha x := fun x => by rw [← eb, hln_newc, a1]
  have b5 : ∀ x, x ≠ n0 + 2 → hI hb' x = hI ha x := fun x q => by rw [← eb, hI_newN (by omega)]
  have b6 : ∀ x, x ≠ n0 + 2 → hL hb' x = hL ha x := fun x q => by rw [← eb, hL_newN (by omega)]
  have b7 : ∀ x, x ≠ n0 + 2 → hR hb' x = hR ha x := fun x q => by rw [← eb, hR_newN (by omega)]
  have bk7 : hkd hb' (n0 + 1) = 7 := by rw [b3, if_neg (by omega), a3, if_pos rfl]
  obtain ⟨he, ee⟩ : ∃ x, newc (setR hb' (n0 + 1) 0 (some (n0 + 2))) 100 len len = x := ⟨_, rfl⟩
  have c1 : hk he = n0 + 3 := by rw [← ee, hk_newc, xk_setR, b1]
  have c2 : hs he = hs h + 4 + len + len := by rw [← ee, hs_newc, xs_setR, b2]
  have c3 : ∀ x, hkd he x = if x = n0 + 3 then 100 else hkd hb' x := fun x => by rw [← ee, hkd_newc, xk_setR, b1, xkd_setR]
  have c4 : ∀ x, hln he x = if x = n0 + 3 then len else hln hb' x := fun x => by rw [← ee, hln_newc, xk_setR, b1, xln_setR]
  have c5 : ∀ x, x ≠ n0 + 3 → hI he x = hI hb' x := fun x q => by rw [← ee, hI_newN (by rw [xk_setR, b1]; omega), xI_setR]
  have c6 : ∀ x, x ≠ n0 + 3 → hL he x = hL hb' x := fun x q => by rw [← ee, hL_newN (by rw [xk_setR, b1]; omega)]; rfl
  have c7 : ∀ x, x ≠ n0 + 3 → hR he x = hR (setR hb' (n0 + 1) 0 (some (n0 + 2))) x := fun x q => by rw [← ee, hR_newN (by rw [xk_setR, b1]; omega)]
  have ck7 : hkd he (n0 + 1) = 7 := by rw [c3, if_neg (by omega), bk7]
  have ckB : hkd he (n0 + 2) = 100 := by rw [c3, if_neg (by omega), b3, if_pos rfl]
  have clB : hln he (n0 + 2) = len := by rw [c4, if_neg (by omega), b4, if_pos rfl]
  have ck16 : hkd he 16 = 100 := by rw [c3, if_neg (by omega), b3, if_neg (by omega), a3, if_neg (by omega)]; exact S.kd (n := 16) (k := 100) rfl rfl
  have cl16 : hln he 16 = 160 := by rw [c4, if_neg (by omega), b4, if_neg (by omega), a4, if_neg (by omega)]; exact S.ln (n := 16) (k := 160) rfl rfl
  have r0 : hR (setR he (n0 + 1) 1 (some (n0 + 3))) (n0 + 1) 0 = some (n0 + 2) := by
    rw [hR_eq, if_neg (by omega), c7 _ (by omega), hR_eq, if_pos ⟨rfl, rfl⟩]
  have Sa : Sh ha := by rw [← ea]; exact Sh_newc2 S (by omega) (by omega)
  have qa : hI ha 10 3 = nI len := by rw [a5 10 (by omega)]; exact q3
  refine ⟨setI (cpyI (setR he (n0 + 1) 1 (some (n0 + 3))) 16 0 (n0 + 2) 0 len) (n0 + 1) 2 (nI a), ?_, ⟨?_, ?_, fun x q => ⟨?_, ?_, ?_, fun z => ?_⟩, fun x z1 z2 q => ?_⟩, fun x q => ?_, ?_, ⟨?_, ?_, ?_⟩, ⟨?_, ?_⟩, ⟨?_, ?_⟩, ?_, fun k q => ?_⟩
  · have kz : ∀ (v : Option Nat), hkd (setR he (n0 + 1) 1 v) = hkd he := fun v => rfl
    have lz : ∀ (v : Option Nat), hln (setR he (n0 + 1) 1 v) = hln he := fun v => rfl
    have kz2 : hkd (cpyI (setR he (n0 + 1) 1 (some (n0 + 3))) 16 0 (n0 + 2) 0 len) (n0 + 1) = 7 := ck7
    simp (decide := true) (disch := (first | assumption | (simp only [Sh_setI, Sm_setI, Sh_setL, Sm_setL]; assumption) | omega)) only [B_9_61, hn, show n0 < 900000 by omega, ea, B_9_64 Sa, qa, E_31, B_31_0, a1, show n0 + 1 < 900000 by omega, n_ix, n_cl, eb, B_31_8, bk7, xk_setR, b1, show n0 + 2 < 900000 by omega, ee, B_31_15, kz, ck7, r0, p_cpy, ck16, ckB, lz, cl16, clB, n_Ole, Nat.zero_le, n_clO, Nat.zero_add, hl, Nat.le_refl, B_31_29, kz2, B_9_77, bI_True, bI_False, p_max, p_min, p_abs, Option.bind_some, Option.bind_none, Option.toList_some, Option.toList_none, List.cons_append, List.nil_append, bI_eq0, bI_ne0, bI_ne1, bI_eq1, bI_01, eq_self, true_or, or_true, and_true, true_and, false_and, and_false, false_or, or_false, ite_true, ite_false, if_true, if_false, not_true, not_false_iff, Classical.not_not, nem, ite_not, ne_eq]
  · show hk he = _; rw [c1, hn]
  · show hs he ≤ _; rw [c2]; omega
  · show hkd he x = _; rw [c3, if_neg (by omega), b3, if_neg (by omega), a3, if_neg (by omega)]
  · show hln he x = _; rw [c4, if_neg (by omega), b4, if_neg (by omega), a4, if_neg (by omega)]
  · show hL he x = _; rw [c6 _ (by omega), b6 _ (by omega), a6 _ (by omega)]
  · show hR (setR he (n0 + 1) 1 (some (n0 + 3))) x = _; rw [hR_ne (by omega), c7 _ (by omega), hR_ne (by omega), b7 _ (by omega), a7 _ (by omega)]
  · rw [hI_ne (by omega)]
    exact funext fun j => by rw [hI_cpy, if_neg (by omega), xI_setR, c5 _ (by omega), b5 _ (by omega), a5 _ (by omega)]
  · rw [hI_ne (by omega)]
    exact funext fun j => by rw [hI_cpy, if_neg (by omega), xI_setR, c5 _ (by omega), b5 _ (by omega), a5 _ (by omega)]
  · show hR (setR he (n0 + 1) 1 (some (n0 + 3))) 17 = _; rw [hR_ne (by omega), c7 _ (by omega), hR_ne (by omega), b7 _ (by omega), a7 _ (by omega)]
  · exact ck7
  · exact ckB
  · show hkd he (n0 + 3) = _; rw [c3, if_pos rfl]
  · exact clB
  · show hln he (n0 + 3) = _; rw [c4, if_pos rfl]
  · exact r0
  · show hR (setR he (n0 + 1) 1 (some (n0 + 3))) (n0 + 1) 1 = _; rw [hR_eq, if_pos ⟨rfl, rfl⟩]
  · rw [hI_eq, if_pos rfl]
  · rw [hI_ne (by omega), hI_cpy, if_pos (by omega), xI_setR, c5 _ (by omega), b5 _ (by omega), a5 _ (by omega)]
    congr 1
    omega
theorem s_text (R : Rel h) (hb : hk h < 800000) : Stq (d + 80) 81 175 [] h := by
  obtain ⟨S, T, I, C, L⟩ := id R
  have h8 : 88 ≤ hk h := T.1
  have q1 : hI h 1 11 = hI h 56 25 := C.2.2.2.2.1.2.1
  have q2 : hI h 56 25 = nI (yT (hI h)) := I.2.2.2.2.1.2.1.1.1
  have q3 : yT (hI h) ≤ 6 := I.2.2.2.2.1.2.1.1.2
  have qz : hI h 56 22 = nI (yB (hI h)) := I.2.2.2.2.1.1.1.1
  have qz1 : yB (hI h) ≤ 160 := I.2.2.2.2.1.1.1.2
  have hB : ∀ k, k < yB (hI h) → cl (hI h 73 k) < 256 ∧ hI h 73 k = nI (cl (hI h 73 k)) := fun k hk => by
    obtain ⟨z1, z2⟩ := I.2.2.2.2.1.1.2 k hk
    exact ⟨by omega, z1⟩
  have H : Bt (fun k => cl (hI h 73 k)) (yB (hI h)) h := ⟨qz1, C.2.2.2.2.1.1.1.trans qz, fun k hk => ⟨(hB k hk).1, (C.2.2.2.2.1.1.2 k hk).trans (hB k hk).2⟩⟩
  generalize hR' : yT (hI h) = n at q2 q3
  by_cases hf : n = 6
  · exact stp_same (v := vi (-4)) R (by simp (decide := true) (disch := (first | assumption | (simp only [Sh_setI, Sm_setI, Sh_setL, Sm_setL]; assumption) | omega)) only [E_81, B_81_0 S, q1, q2, n_ltO, hf, B_81_9, bI_True, bI_False, p_max, p_min, p_abs, Option.bind_some, Option.bind_none, Option.toList_some, Option.toList_none, List.cons_append, List.nil_append, bI_eq0, bI_ne0, bI_ne1, bI_eq1, bI_01, eq_self, true_or, or_true, and_true, true_and, false_and, and_false, false_or, or_false, ite_true, ite_false, if_true, if_false, not_true, not_false_iff, Classical.not_not, nem, ite_not, ne_eq]) (by simp (decide := true) (disch := (first | assumption | (simp only [Sh_setI, Sm_setI, Sh_setL, Sm_setL]; assumption) | omega)) only [E_175, B_175_0 T, q2, n_eqO, hf, B_175_9, bI_True, bI_False, p_max, p_min, p_abs, Option.bind_some, Option.bind_none, Option.toList_some, Option.toList_none, List.cons_append, List.nil_append, bI_eq0, bI_ne0, bI_ne1, bI_eq1, bI_01, eq_self, true_or, or_true, and_true, true_and, false_and, and_false, false_or, or_false, ite_true, ite_false, if_true, if_false, not_true, not_false_iff, Classical.not_not, nem, ite_not, ne_eq])
  · have n6 : n < 6 := by omega
    generalize hsz : yB (hI h) = sz at *
    have hB' : ∀ (h' : am_H), hI h' 73 = hI h 73 → ∀ k, k < sz → (fun k => cl (hI h 73 k)) k < 256 ∧ hI h' 73 k = nI ((fun k => cl (hI h 73 k)) k) := fun h' e k hk => by rw [e]; exact hB k hk
    generalize hbb : (fun k => cl (hI h 73 k)) = b at H hB'
    obtain ⟨N, hN, n1, n2⟩ := many_ex (b := b) (sz := sz)
    have hT0 : ∀ t, N ≤ t → tkF b sz t = 0 := fun t ht => by
      unfold tkF
      have := st_end2 n2 (t - N)
      rw [show N + (t - N) = t by omega] at this
      rw [if_neg this]
    obtain ⟨p1, P1⟩ := pq_ex (V := vlF b sz) hT0 128 0 []
    obtain ⟨p2, P2⟩ := pq_ex (V := vlF b sz) hT0 129 p1.2.1 p1.2.2
    have hV : ∀ k, tkF b sz k = 1 → vlF b sz k ≤ 9999 := fun k _ => val_ok
    obtain ⟨f1, f2⟩ := pq_fact hT0 hV P1 (Nat.zero_le _) (by omega)
    obtain ⟨g1, g2⟩ := pq_fact hT0 hV P2 f1 (by omega)
    obtain ⟨hc, F, st, ok, no⟩ := c_read (d := d + 3) S L.2.2 H hN n1 n2 hT0 P1 (fun _ => P2)
    have K := F.kp (fun n q => by rcases q with rfl | rfl | rfl | rfl | rfl <;> rfl)
    have Rc := K.rel (by omega) R
    have ekc : hk hc = hk h := by rw [hk, K.1]; rfl
    have mo := K.model T C
    obtain ⟨Sc, Tc, Ic, Cc, Lc⟩ := id Rc
    have z1 : hI hc 1 11 = nI n := by rw [F.2.2.2.2.2 1 (by omega), q1, q2]
    have eR : yT (hI hc) = n := by unfold yT; rw [mo 56 (by omega) (by omega)]; exact hR'
    have gr0 := K.gr L
    by_cases w : p1.1 = true ∧ p2.1 = true ∧ tkF b sz p2.2.1 = 0
    · obtain ⟨e9, Co2⟩ := ok w
      obtain ⟨s1, A, a2, a3⟩ := f2 w.1
      obtain ⟨s2, B, b2, b3, b4⟩ := g2 w.2.1
      obtain ⟨a3, a4⟩ := a3
      rw [List.nil_append] at a2
      have ln : p2.2.2.length + 4 ≤ N := by
        have : ([] : List tOp).length = 0 := rfl
        omega
      obtain ⟨hf', e10, Kf, x1, x17, ⟨k1, k2, k3⟩, ⟨l1, l2⟩, ⟨r1, r2⟩, i2, cp⟩ := c_newText (d := d + 71) Sc (by have := Rc.2.1.1; omega) (by omega) (len := p2.2.2.length) (a := p1.2.2.length) (by omega) Co2.1
      have Sf : Sh hf' := Kf.sh Sc (by have := Tc.1; omega) (by omega)
      have S1 : Sh (setI hf' 11 1 0) := Sf.si
      have z11 : hI (setI hf' 11 1 0) 1 11 = nI n := by rw [hI_ne (by omega), x1 1 (by omega)]; exact z1
      have k1' : hkd (setI hf' 11 1 0) (hk hc + 1) = 7 := k1
      have e1 : Cl (d + 80) 81 [vr (some 1)] h = some (some (vi (nI n)), setI (setR (setI hf' 11 1 0) 17 n (some (hk hc + 1))) 1 11 (nI (n + 1))) := by
        simp (decide := true) (disch := (first | assumption | (simp only [Sh_setI, Sm_setI, Sh_setL, Sm_setL]; assumption) | omega)) only [E_81, B_81_0 S, q1, q2, n_ltO, n6, B_81_12 S, e9, e10, B_81_19 Sf, E_32, B_32_0 Sf, B_81_27, B_81_42 S1, k1', z11, n_ix, n_cl, xI_setR, B_81_63, n_addO, bI_True, bI_False, p_max, p_min, p_abs, Option.bind_some, Option.bind_none, Option.toList_some, Option.toList_none, List.cons_append, List.nil_append, bI_eq0, bI_ne0, bI_ne1, bI_eq1, bI_01, eq_self, true_or, or_true, and_true, true_and, false_and, and_false, false_or, or_false, ite_true, ite_false, if_true, if_false, not_true, not_false_iff, Classical.not_not, nem, ite_not, ne_eq]
        exact if_neg (fun z => Option.some_ne_none _ z)
      have K1 : Kx 3 hc (setI (setR (setI hf' 11 1 0) 17 n (some (hk hc + 1))) 1 11 (nI (n + 1))) := ((Kf.si (by omega)).r17).si (by omega)
      obtain ⟨h1, eh1⟩ : ∃ x, setI (setR (setI hf' 11 1 0) 17 n (some (hk hc + 1))) 1 11 (nI (n + 1)) = x := ⟨_, rfl⟩
      have y1 : ∀ x, x ≤ hk hc → x ≠ 1 → x ≠ 11 → hI h1 x = hI hc x := fun x q w1 w2 => by rw [← eh1, hI_ne w1, xI_setR, hI_ne w2]; exact x1 x q
      have y2 : ∀ j, hI h1 1 j = if j = 11 then nI (n + 1) else hI hc 1 j := fun j => by rw [← eh1, hI_eq, xI_setR, hI_ne (by omega), x1 1 (by omega)]
      have y3 : hI h1 11 1 = 0 := by rw [← eh1, hI_ne (by omega), xI_setR, hI_eq, if_pos rfl]
      have y4 : hI h1 (hk hc + 1) = hI hf' (hk hc + 1) ∧ hI h1 (hk hc + 2) = hI hf' (hk hc + 2) := by
        have := Tc.1
        rw [← eh1]
        exact ⟨by rw [hI_ne (by omega), xI_setR, hI_ne (by omega)], by rw [hI_ne (by omega), xI_setR, hI_ne (by omega)]⟩
      have y5 : ∀ x j, hR h1 x j = if x = 17 ∧ j = n then some (hk hc + 1) else hR hf' x j := fun x j => by rw [← eh1, xR_setI, hR_eq, xR_setI]
      have y6 : hkd h1 = hkd hf' ∧ hln h1 = hln hf' := by rw [← eh1]; exact ⟨rfl, rfl⟩
      rw [eh1] at e1 K1
      have m1 : ∀ x, 56 ≤ x → x ≤ 88 → hI h1 x = hI h x := fun x w1 w2 => by rw [y1 x (by have := Tc.1; omega) (by omega) (by omega)]; exact mo x w1 w2
      have T1 : Sm h1 := by
        refine ⟨by have := K1.1; have := Tc.1; omega, fun x q => ?_, fun x f q => ?_⟩
        · have w := km0_cl x q
          have := Tc.1
          rw [(K1.2.2.1 x (by omega)).1, (K1.2.2.1 x (by omega)).2.1]
          exact Tc.2.1 x q
        · have w := rg0_cl x f q
          have := Tc.1
          rw [(K1.2.2.1 x (by omega)).2.2.2 (by omega)]
          exact Tc.2.2 x f q
      have L1 : Lt h1 := by
        have := Tc.1
        refine ⟨by rw [(K1.2.2.1 0 (by omega)).1]; exact Lc.1, fun j hj => ?_, fun i j hi hj => ?_⟩
        · rw [(K1.2.2.1 85 (by omega)).2.2.1]; exact Lc.2.1 j hj
        · exact ⟨by rw [K1.2.2.2 _ (by omega) (by omega) (by omega)]; exact (Lc.2.2 i j hi hj).1, by rw [K1.2.2.2 _ (by omega) (by omega) (by omega)]; exact (Lc.2.2 i j hi hj).2⟩
      obtain ⟨h2, G, okM, -⟩ := m_read (d := d + 60) T1 L1 qz1 (hB' h1 (m1 73 (by omega) (by omega))) (by omega) (by rw [m1 56 (by omega) (by omega)]; exact qz) (by rw [m1 56 (by omega) (by omega)]; exact q2) n6 hT0 P1 (fun _ => P2)
      obtain ⟨e2, M2, v0, v1⟩ := okM w
      have T2 : Sm h2 := G.1.sm T1
      have T3 : Sm (setI (setI h2 75 (4 * n + 2) (nI p2.2.2.length)) 56 22 0) := T2.si.si
      have e3 : Cl (d + 80) 175 [vr (some 56)] h1 = some (some (vi (nI n)), setI (setI (setI h2 75 (4 * n + 2) (nI p2.2.2.length)) 56 22 0) 56 25 (nI (n + 1))) := by
        rw [e2]
        simp (decide := true) (disch := (first | assumption | (simp only [Sh_setI, Sm_setI, Sh_setL, Sm_setL]; assumption) | omega)) only [B_175_122 T2, M2.1, n_Omul, n_addO, n_ix, n_cl, M2.2.1, B_175_144, B_175_156 T3, hI_eq, hI_ne, n_subO, Nat.add_sub_cancel, bI_True, bI_False, p_max, p_min, p_abs, Option.bind_some, Option.bind_none, Option.toList_some, Option.toList_none, List.cons_append, List.nil_append, bI_eq0, bI_ne0, bI_ne1, bI_eq1, bI_01, eq_self, true_or, or_true, and_true, true_and, false_and, and_false, false_or, or_false, ite_true, ite_false, if_true, if_false, not_true, not_false_iff, Classical.not_not, nem, ite_not, ne_eq]
      refine ⟨vi (nI n), h1, _, e1, e3, ?_⟩
      have K2 : Kx 3 hc (setI (setI (setI h2 75 (4 * n + 2) (nI p2.2.2.length)) 56 22 0) 56 25 (nI (n + 1))) := (((K1.fi G.1 (fun n q => by omega)).si (by omega)).si (by omega)).si (by omega)
      have u1 : ∀ x, x ≠ 56 → x ≠ 74 → x ≠ 75 → x ≠ 86 → hI (setI (setI (setI h2 75 (4 * n + 2) (nI p2.2.2.length)) 56 22 0) 56 25 (nI (n + 1))) x = hI h1 x := fun x w1 w2 w3 w4 => by rw [hI_ne w1, hI_ne w1, hI_ne w3]; exact G.1.2.2.2.2.2 x (by omega)
      have u56 : ∀ f, f < 45 → f ≠ 22 → f ≠ 25 → hI (setI (setI (setI h2 75 (4 * n + 2) (nI p2.2.2.length)) 56 22 0) 56 25 (nI (n + 1))) 56 f = hI h1 56 f := fun f w1 w2 w3 => by rw [hI_eq, if_neg w3, hI_eq, if_neg w2, hI_ne (by omega)]; exact G.2.1 f w1
      have u74 : hI (setI (setI (setI h2 75 (4 * n + 2) (nI p2.2.2.length)) 56 22 0) 56 25 (nI (n + 1))) 74 = hI h2 74 := by rw [hI_ne (by omega), hI_ne (by omega), hI_ne (by omega)]
      have u75 : ∀ k, k ≠ 4 * n + 2 → hI (setI (setI (setI h2 75 (4 * n + 2) (nI p2.2.2.length)) 56 22 0) 56 25 (nI (n + 1))) 75 k = hI h2 75 k := fun k q => by rw [hI_ne (by omega), hI_ne (by omega), hI_eq, if_neg q]
      have u752 : hI (setI (setI (setI h2 75 (4 * n + 2) (nI p2.2.2.length)) 56 22 0) 56 25 (nI (n + 1))) 75 (4 * n + 2) = nI p2.2.2.length := by rw [hI_ne (by omega), hI_ne (by omega), hI_eq, if_pos rfl]
      have u22 : hI (setI (setI (setI h2 75 (4 * n + 2) (nI p2.2.2.length)) 56 22 0) 56 25 (nI (n + 1))) 56 22 = 0 := by rw [hI_eq, if_neg (by omega), hI_eq, if_pos rfl]
      have u25 : hI (setI (setI (setI h2 75 (4 * n + 2) (nI p2.2.2.length)) 56 22 0) 56 25 (nI (n + 1))) 56 25 = nI (n + 1) := by rw [hI_eq, if_pos rfl]
      have uR : ∀ x j, hR (setI (setI (setI h2 75 (4 * n + 2) (nI p2.2.2.length)) 56 22 0) 56 25 (nI (n + 1))) x j = hR h1 x j := fun x j => by rw [xR_setI, xR_setI, xR_setI, G.1.2.2.2.1]
      have ukd : hkd (setI (setI (setI h2 75 (4 * n + 2) (nI p2.2.2.length)) 56 22 0) 56 25 (nI (n + 1))) = hkd h1 := by rw [xkd_setI, xkd_setI, xkd_setI, G.1.2.1]
      have uln : hln (setI (setI (setI h2 75 (4 * n + 2) (nI p2.2.2.length)) 56 22 0) 56 25 (nI (n + 1))) = hln h1 := by rw [xln_setI, xln_setI, xln_setI, G.1.2.2.1]
      obtain ⟨h3, eh3⟩ : ∃ x, setI (setI (setI h2 75 (4 * n + 2) (nI p2.2.2.length)) 56 22 0) 56 25 (nI (n + 1)) = x := ⟨_, rfl⟩
      rw [eh3] at K2 u1 u56 u74 u75 u752 u22 u25 uR ukd uln ⊢
      have hc88 := Tc.1
      have hops : ∀ k o, (p1.2.2 ++ B)[k]? = some o → hI h3 (hk hc + 1 + 1) k = encC o ∧ hI h3 74 (200 * n + k) = encM o := fun k o z => by
        rw [← b2] at z
        have kl := (List.getElem?_eq_some_iff.mp z).1
        rw [u1 _ (by omega) (by omega) (by omega) (by omega), show hk hc + 1 + 1 = hk hc + 2 from rfl, y4.2, cp k kl, u74]
        exact ⟨Co2.2 k o z, M2.2.2 k o z⟩
      obtain ⟨Rel2, Gr2⟩ := txt_rel (k := 3) (R := n) (T' := n + 1) Rc (by omega) (by omega) K2 eR (fun j hj => by rw [uR, y5, if_neg (by omega), x17]) (fun x w1 w2 w3 w4 => by rw [u1 x (by omega) (by omega) (by omega) (by omega)]; exact y1 x (by omega) (by omega) w3) (fun j hj => by rw [u1 1 (by omega) (by omega) (by omega) (by omega), y2, if_neg hj]) (fun x w1 w2 w3 w4 => by rw [u1 x (by omega) w3 w4 (by omega)]; exact y1 x (by omega) (by omega) (by omega)) (fun f w1 w2 w3 => by rw [u56 f (by omega) w2 w3, y1 56 (by omega) (by omega) (by omega)]) (fun k q => by rw [u74, G.2.2.1 k q, y1 74 (by omega) (by omega) (by omega)]) (fun k q => by rw [u75 k (by omega), G.2.2.2 k (by omega), y1 75 (by omega) (by omega) (by omega)]) u22 (by rw [u1 11 (by omega) (by omega) (by omega) (by omega)]; exact y3) u25 (by rw [u1 1 (by omega) (by omega) (by omega) (by omega), y2, if_pos rfl]) (Or.inr ⟨rfl, by omega, hk hc + 1, p1.2.2, B, by rw [uR, y5, if_pos ⟨rfl, rfl⟩], by rw [ukd, y6.1]; exact k1, by omega, by rw [K2.1]; omega, by rw [uR, y5, if_neg (by omega)]; exact r1, by rw [uR, y5, if_neg (by omega)]; exact r2, by rw [ukd, y6.1]; exact k2, by rw [ukd, y6.1]; exact k3, by rw [uln, y6.2, ← b2]; exact l1, by rw [uln, y6.2, ← b2]; exact l2, by rw [← b2]; omega, by rw [u1 _ (by omega) (by omega) (by omega) (by omega), y4.1]; exact i2, by rw [u75 _ (by omega)]; exact v0, by rw [u75 _ (by omega)]; exact v1, by rw [u752, b2], fun o ho => by
          rcases List.mem_append.mp ho with z | z
          · rw [a2] at z; exact a3 o z
          · exact b3 o z, hops, by rw [a2]; exact a4, b4⟩)
      refine ⟨Rel2, ?_⟩
      obtain ⟨t1, t2, t3, t4, t5⟩ := gr0
      obtain ⟨v1, v2, v3, v4, v5⟩ := Gr2
      exact ⟨v1.trans t1, v2.trans t2, v3.trans t3, by omega, by omega⟩
    · obtain ⟨e9, pos⟩ := no w
      generalize hp : (if p1.1 = true then p2.2.1 else p1.2.1) = p at pos no
      have hpN : p ≤ N := by rw [← hp]; split <;> assumption
      have S1 : Sh (setI hc 11 1 0) := Sc.si
      have T1 : Sm (setI hc 11 1 0) := Tc.si
      have c10 : hI (setI hc 11 1 0) 10 1 = nI p := by rw [hI_ne (by omega)]; exact pos
      have c14 : hI (setI hc 11 1 0) 14 p = nI (stF b sz p) := by rw [hI_ne (by omega)]; exact st p hpN
      have e1 : Cl (d + 80) 81 [vr (some 1)] h = some (some (vi (-100 - nI (stF b sz p))), setI hc 11 1 0) := by
        simp (decide := true) (disch := (first | assumption | (simp only [Sh_setI, Sm_setI, Sh_setL, Sm_setL]; assumption) | omega)) only [E_81, B_81_0 S, q1, q2, n_ltO, n6, B_81_12 S, e9, B_81_19 Sc, E_32, B_32_0 Sc, B_81_27, B_81_31 S1, E_82, B_82_0 S1, c10, n_ix, n_cl, c14, B_81_40, bI_True, bI_False, p_max, p_min, p_abs, Option.bind_some, Option.bind_none, Option.toList_some, Option.toList_none, List.cons_append, List.nil_append, bI_eq0, bI_ne0, bI_ne1, bI_eq1, bI_01, eq_self, true_or, or_true, and_true, true_and, false_and, and_false, false_or, or_false, ite_true, ite_false, if_true, if_false, not_true, not_false_iff, Classical.not_not, nem, ite_not, ne_eq]
      have K1 : Kx 0 hc (setI hc 11 1 0) := Kx.rf.si (by omega)
      have L1 : Lt (setI hc 11 1 0) := ⟨Lc.1, Lc.2.1, fun i j hi hj => ⟨by rw [hI_ne (by omega)]; exact (Lc.2.2 i j hi hj).1, by rw [hI_ne (by omega)]; exact (Lc.2.2 i j hi hj).2⟩⟩
      have m1 : ∀ x, 56 ≤ x → x ≤ 88 → hI (setI hc 11 1 0) x = hI h x := fun x w1 w2 => by rw [hI_ne (by omega)]; exact mo x w1 w2
      obtain ⟨h2, G, -, noM⟩ := m_read (d := d + 60) T1 L1 qz1 (hB' _ (m1 73 (by omega) (by omega))) (by omega) (by rw [m1 56 (by omega) (by omega)]; exact qz) (by rw [m1 56 (by omega) (by omega)]; exact q2) n6 hT0 P1 (fun _ => P2)
      obtain ⟨⟨a2, e2⟩, v46⟩ := noM w
      rw [hp] at v46
      have T2 : Sm h2 := G.1.sm T1
      have q25 : hI h2 56 25 = nI n := by rw [G.2.1 25 (by omega), m1 56 (by omega) (by omega)]; exact q2
      have T3 : Sm (setI (setI h2 75 (4 * n + 2) (hI h2 56 53)) 56 22 0) := T2.si.si
      have e3 : Cl (d + 80) 175 [vr (some 56)] (setI hc 11 1 0) = some (some (vi (-100 - nI (stF b sz p))), setI (setI h2 75 (4 * n + 2) (hI h2 56 53)) 56 22 0) := by
        rw [e2]
        simp (decide := true) (disch := (first | assumption | (simp only [Sh_setI, Sm_setI, Sh_setL, Sm_setL]; assumption) | omega)) only [B_175_122 T2, q25, n_Omul, n_addO, n_ix, n_cl, B_175_144, B_175_148 T3, hI_eq, hI_ne, v46, bI_True, bI_False, p_max, p_min, p_abs, Option.bind_some, Option.bind_none, Option.toList_some, Option.toList_none, List.cons_append, List.nil_append, bI_eq0, bI_ne0, bI_ne1, bI_eq1, bI_01, eq_self, true_or, or_true, and_true, true_and, false_and, and_false, false_or, or_false, ite_true, ite_false, if_true, if_false, not_true, not_false_iff, Classical.not_not, nem, ite_not, ne_eq]
      refine ⟨vi (-100 - nI (stF b sz p)), _, _, e1, e3, ?_⟩
      have K2 : Kx 0 hc (setI (setI h2 75 (4 * n + 2) (hI h2 56 53)) 56 22 0) := ((K1.fi G.1 (fun n q => by omega)).si (by omega)).si (by omega)
      have u1 : ∀ x, x ≠ 56 → x ≠ 74 → x ≠ 75 → x ≠ 86 → hI (setI (setI h2 75 (4 * n + 2) (hI h2 56 53)) 56 22 0) x = hI (setI hc 11 1 0) x := fun x w1 w2 w3 w4 => by rw [hI_ne w1, hI_ne w3]; exact G.1.2.2.2.2.2 x (by omega)
      have u56 : ∀ f, f < 45 → f ≠ 22 → hI (setI (setI h2 75 (4 * n + 2) (hI h2 56 53)) 56 22 0) 56 f = hI (setI hc 11 1 0) 56 f := fun f w1 w2 => by rw [hI_eq, if_neg w2, hI_ne (by omega)]; exact G.2.1 f w1
      obtain ⟨Rel2, Gr2⟩ := txt_rel (k := 0) (R := n) (T' := n) Rc (by omega) (by omega) K2 eR (fun j hj => by rw [xR_setI, xR_setI, G.1.2.2.2.1, xR_setI]) (fun x w1 w2 w3 w4 => by rw [u1 x (by omega) (by omega) (by omega) (by omega), hI_ne w3]) (fun j hj => by rw [u1 1 (by omega) (by omega) (by omega) (by omega), hI_ne (by omega)]) (fun x w1 w2 w3 w4 => by rw [u1 x (by omega) w3 w4 (by omega), hI_ne (by omega)]) (fun f w1 w2 w3 => by rw [u56 f (by omega) w2, hI_ne (by omega)]) (fun k q => by rw [hI_ne (by omega), hI_ne (by omega), G.2.2.1 k q, hI_ne (by omega)]) (fun k q => by rw [hI_ne (by omega), hI_eq, if_neg (by omega), G.2.2.2 k (by omega), hI_ne (by omega)]) (by rw [hI_eq, if_pos rfl]) (by rw [u1 11 (by omega) (by omega) (by omega) (by omega), hI_eq, if_pos rfl]) (by rw [u56 25 (by omega) (by omega), m1 56 (by omega) (by omega)]; exact q2) (by rw [u1 1 (by omega) (by omega) (by omega) (by omega), hI_ne (by omega)]; exact z1) (Or.inl rfl)
      refine ⟨Rel2, ?_⟩
      obtain ⟨t1, t2, t3, t4, t5⟩ := gr0
      obtain ⟨v1, v2, v3, v4, v5⟩ := Gr2
      exact ⟨v1.trans t1, v2.trans t2, v3.trans t3, by omega, by omega⟩
end TXT3
