/-! the law: its end -/
def AFp (c L : Nat) (z hA : am_H) : Prop := (hk hA = 52) ∧ (Sh hA) ∧ (Ls hA) ∧ (hkd hA 0 = 901) ∧ (∀ f, f < 20 → f ≠ 11 → hI hA 1 f = 0) ∧ (hI hA 2 2 = 0) ∧ (∀ k, k < 5 → hI hA 3 k = 0 ∧ hI hA 5 k = 0 ∧ hI hA 6 k = 0) ∧ (hI hA 35 0 = 0) ∧ (∀ k, k < 3 → hI hA 33 k = 0) ∧ (∀ s, s < 4 → hI hA (45 + 2 * s) 1 = -1 ∧ hI hA (45 + 2 * s) 2 = 0) ∧ hs hA = c ∧ hln z 0 = L
def CFp (hA h1 : am_H) : Prop := (Kx 3 hA h1) ∧ (∀ a, 2 ≤ a → a ≤ 52 → a ≠ 11 → a ≠ 12 → scrC a = false → hI h1 a = hI hA a) ∧ (∀ j, hI h1 1 j = if j = 11 then 1 else hI hA 1 j) ∧ (hI h1 11 1 = 0) ∧ (hR h1 17 0 = some 53) ∧ (hkd h1 53 = 7 ∧ hkd h1 54 = 100 ∧ hkd h1 55 = 100) ∧ (hln h1 54 = 14 ∧ hln h1 55 = 14) ∧ (hR h1 53 0 = some 54 ∧ hR h1 53 1 = some 55) ∧ (hI h1 53 2 = nI 7) ∧ (∀ k o, (frA ++ frC)[k]? = some o → hI h1 54 k = encC o)
def XFp (c : Nat) (g X : am_H) : Prop := (∀ n, n < 56 → hkd X n = hkd g n ∧ hln X n = hln g n ∧ hI X n = hI g n ∧ hL X n = hL g n ∧ hR X n = hR g n) ∧ (∀ n, 1000 ≤ n → hkd X n = hkd g n ∧ hln X n = hln g n ∧ hR X n = hR g n ∧ hI X n = hI g n ∧ hL X n = hL g n) ∧ (hk X = 88) ∧ (Sm X) ∧ (∀ f, f < 44 → hI X 56 f = if f = 25 then 1 else 0) ∧ (∀ k, k < 5 → hI X 57 k = 0) ∧ (∀ k, k < 10 → hI X 58 k = 0) ∧ (∀ k, k < 40 → hI X 72 k = 0) ∧ (∀ s, s < 4 → hI X 82 s = -1 ∧ hI X 83 s = 0) ∧ (∀ k, k < 11 → hL X 85 k = wdL.getD k 0) ∧ (hI X 75 0 = 0) ∧ hs X = hs g + c
def MFp (X h2 : am_H) : Prop := (Fi (fun a => a = 71 ∨ a = 74 ∨ a = 75) X h2) ∧ (∀ k, hI h2 71 k = if k < 40 then -1 else hI X 71 k) ∧ (hI h2 75 0 = hI X 75 0 ∧ hI h2 75 1 = nI 7 ∧ hI h2 75 2 = nI 14) ∧ (∀ k o, (frA ++ frC)[k]? = some o → hI h2 74 k = encM o)
theorem AF_a {L : Nat} {xs : Nat → Int32} : AFp (hs (ap ev_a57 h00)) L (ap ev_a1 (am_h0 L xs)) (ap ev_a57 (am_h0 L xs)) := ⟨a_hk, Sh_a, Ls_a, a_0, a_ints.1, a_ints.2.1, a_ints.2.2.1, a_ints.2.2.2.1, a_ints.2.2.2.2.1, a_ints.2.2.2.2.2, ap_hs, a1_ln⟩
theorem CF_d {d L : Nat} {xs : Nat → Int32} : ∃ h1, Ev (d + 90) 1 152 [vr (some 1), vi 4] [] (ap ev_a57 (am_h0 L xs)) = some (none, h1) ∧ CFp (ap ev_a57 (am_h0 L xs)) h1 := ctor_d
theorem XF_b {g : am_H} (B : Sb g hB) (k : 55 ≤ hk g) : XFp (hs (ap ev_bX hB)) g (ap ev_bX g) := ⟨(lo_ap k ev_bX x_mid).2, ap_hi ev_bX y_low (Nat.lt_of_le_of_lt (Nat.le_of_eq (x_hk B)) (by decide)), x_hk B, Sm_x B, (b_ints B).1, (b_ints B).2.1, (b_ints B).2.2.1, (b_ints B).2.2.2.1, (b_ints B).2.2.2.2.1, (b_ints B).2.2.2.2.2.1, (b_ints B).2.2.2.2.2.2, x_hs⟩
theorem MF_b {d : Nat} {g : am_H} (B : Sb g hB) : ∃ h2, Cl (d + 90) 145 [vr (some 56)] g = some (none, h2) ∧ MFp (ap ev_bX g) h2 := mdl B
theorem fz_e1 {d L : Nat} {xs : Nat → Int32} {h1 : am_H} (e : Ev (d + 90) 1 152 [vr (some 1), vi 4] [] (ap ev_a57 (am_h0 L xs)) = some (none, h1)) : Cl (d + 90) 1 [vr (some 1)] (ap ev_a1 (am_h0 L xs)) = some (none, h1) := E_1.trans (ctor_a.trans e)
theorem fz_k1 {c L : Nat} {z hA h1 : am_H} (A : AFp c L z hA) (C : CFp hA h1) : hk h1 = 55 := by rw [C.1.1, A.1]
theorem fz_all {c e L d : Nat} {z hA h1 X h2 : am_H} (A : AFp c L z hA) (C : CFp hA h1) (e1 : Cl d 1 [vr (some 1)] z = some (none, h1)) (Q : XFp e (newc h1 11 0 61) X) (M : MFp X h2) (e2 : Cl d 145 [vr (some 56)] (newc h1 11 0 61) = some (none, h2)) (ce : c + e ≤ 40000) : Rel h2 ∧ hkd h2 0 = 901 ∧ hln h2 0 = L ∧ hk h2 = 88 ∧ hs h2 ≤ 50000 := by
  have k1 := fz_k1 A C
  obtain ⟨kA, SA, LA, A0, a1, a2, a3, a35, a33, a45, sA, zL⟩ := A
  obtain ⟨Kf, c1, c2, c3, c4, c5, c6, c7, c8, c9⟩ := C
  obtain ⟨lo, hi, kX, TX, x56, x57, x58, x72, x82, x85, x75, sX⟩ := Q
  obtain ⟨F, d1, d2, d3⟩ := M
  have R : Rel h2 := am_fin kA SA LA A0 a1 a2 a3 a35 a33 a45 Kf c1 c2 c3 c4 c5 c6 c7 c8 c9 lo hi kX TX x56 x57 x58 x72 x82 x85 x75 F d1 d2 d3
  have F1 := F.1
  have s1 := Kf.2.1
  refine ⟨R, R.2.2.2.2.1, ?_, ?_, ?_⟩
  · rw [((kz_Cl e2).2 0 (Nat.zero_le _)).2.1, hln_newc, if_neg (by omega), ((kz_Cl e1).2 0 (Nat.zero_le _)).2.1]
    exact zL
  · have : hk h2 = hk X := by unfold hk; rw [F1]
    rw [this]; exact kX
  · have w : hs h2 = hs X := by unfold hs; rw [F1]
    rw [w, sX, hs_newc]
    omega
theorem fz_run {L : Nat} {a0 z h1 h2 : am_H} (hL9 : L ≤ 384) (t0 : Ev (216 + 84) 0 0 [vr (some 0), vu, vu, vu] [] a0 = Ev (216 + 84) 0 3 [vr (some 0), vu, vu, vu] [vr (some 1)] z) (e1 : Cl (216 + 83) 1 [vr (some 1)] z = some (none, h1)) (k1 : hk h1 = 55) (e2 : Cl (216 + 83) 145 [vr (some 56)] (newc h1 11 0 61) = some (none, h2)) (R : Rel h2 ∧ hkd h2 0 = 901 ∧ hln h2 0 = L ∧ hk h2 = 88 ∧ hs h2 ≤ 50000) : ∃ h3, Ev 300 0 0 (am_ent 4 [vr (some 0)]) [] a0 = some (some (vi 1), h3) ∧ hk h3 ≤ 600000 ∧ hs h3 ≤ 7302250 := by
  obtain ⟨R, K0, L0, k2, s2⟩ := R
  obtain ⟨h3, e3, r1, r2⟩ := lp_all (d := 216) hL9 64 0 h2 (by omega) (by omega) R K0 L0 (by omega)
  exact ⟨h3, t0.trans (tie e1 k1 e2 e3), by omega, by omega⟩
theorem fz_go {L : Nat} {a0 z hA h1 X h2 : am_H} {c e : Nat} (hL9 : L ≤ 384) (t0 : Ev (216 + 84) 0 0 [vr (some 0), vu, vu, vu] [] a0 = Ev (216 + 84) 0 3 [vr (some 0), vu, vu, vu] [vr (some 1)] z) (A : AFp c L z hA) (C : CFp hA h1) (e1 : Cl (209 + 90) 1 [vr (some 1)] z = some (none, h1)) (Q : XFp e (newc h1 11 0 61) X) (M : MFp X h2) (e2 : Cl (209 + 90) 145 [vr (some 56)] (newc h1 11 0 61) = some (none, h2)) (ce : c + e ≤ 40000) : ∃ h3, Ev 300 0 0 (am_ent 4 [vr (some 0)]) [] a0 = some (some (vi 1), h3) ∧ hk h3 ≤ 600000 ∧ hs h3 ≤ 7302250 := fz_run hL9 t0 e1 (fz_k1 A C) e2 (fz_all A C e1 Q M e2 ce)
theorem am_law (L : Nat) (xs : Nat → Int32) (hL9 : L ≤ 384) : ∃ h1, Ev 300 0 0 (am_ent 4 [vr (some 0)]) [] (am_h0 L xs) = some (some (vi 1), h1) ∧ hk h1 ≤ 600000 ∧ hs h1 ≤ 7302250 := by
  obtain ⟨h1, e1, C⟩ := CF_d (d := 209) (L := L) (xs := xs)
  have k1 : hk h1 = 55 := fz_k1 AF_a C
  obtain ⟨h2, e2, M⟩ := MF_b (d := 209) (sb_new k1)
  have k2 : 55 ≤ hk (newc h1 11 0 61) := by rw [hk_newc, k1]; decide
  exact fz_go hL9 tie0 AF_a C (fz_e1 e1) (XF_b (sb_new k1) k2) M e2 y_hs
