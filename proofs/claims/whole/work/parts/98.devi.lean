/-! start: the law -/
theorem am_fin {hA h1 X h2 : am_H} (kA : hk hA = 52) (SA : Sh hA) (LA : Ls hA) (A0 : hkd hA 0 = 901) (a1 : ∀ f, f < 20 → f ≠ 11 → hI hA 1 f = 0) (a2 : hI hA 2 2 = 0) (a3 : ∀ k, k < 5 → hI hA 3 k = 0 ∧ hI hA 5 k = 0 ∧ hI hA 6 k = 0) (a35 : hI hA 35 0 = 0) (a33 : ∀ k, k < 3 → hI hA 33 k = 0) (a45 : ∀ s, s < 4 → hI hA (45 + 2 * s) 1 = -1 ∧ hI hA (45 + 2 * s) 2 = 0) (Kf : Kx 3 hA h1) (c1 : ∀ a, 2 ≤ a → a ≤ 52 → a ≠ 11 → a ≠ 12 → scrC a = false → hI h1 a = hI hA a) (c2 : ∀ j, hI h1 1 j = if j = 11 then 1 else hI hA 1 j) (c3 : hI h1 11 1 = 0) (c4 : hR h1 17 0 = some 53) (c5 : hkd h1 53 = 7 ∧ hkd h1 54 = 100 ∧ hkd h1 55 = 100) (c6 : hln h1 54 = 14 ∧ hln h1 55 = 14) (c7 : hR h1 53 0 = some 54 ∧ hR h1 53 1 = some 55) (c8 : hI h1 53 2 = nI 7) (c9 : ∀ k o, (frA ++ frC)[k]? = some o → hI h1 54 k = encC o) (lo : ∀ n, n < 56 → hkd X n = hkd (newc h1 11 0 61) n ∧ hln X n = hln (newc h1 11 0 61) n ∧ hI X n = hI (newc h1 11 0 61) n ∧ hL X n = hL (newc h1 11 0 61) n ∧ hR X n = hR (newc h1 11 0 61) n) (hi : ∀ n, 1000 ≤ n → hkd X n = hkd (newc h1 11 0 61) n ∧ hln X n = hln (newc h1 11 0 61) n ∧ hR X n = hR (newc h1 11 0 61) n ∧ hI X n = hI (newc h1 11 0 61) n ∧ hL X n = hL (newc h1 11 0 61) n) (kX : hk X = 88) (TX : Sm X) (x56 : ∀ f, f < 44 → hI X 56 f = if f = 25 then 1 else 0) (x57 : ∀ k, k < 5 → hI X 57 k = 0) (x58 : ∀ k, k < 10 → hI X 58 k = 0) (x72 : ∀ k, k < 40 → hI X 72 k = 0) (x82 : ∀ s, s < 4 → hI X 82 s = -1 ∧ hI X 83 s = 0) (x85 : ∀ k, k < 11 → hL X 85 k = wdL.getD k 0) (x75 : hI X 75 0 = 0) (F : Fi (fun a => a = 71 ∨ a = 74 ∨ a = 75) X h2) (d1 : ∀ k, hI h2 71 k = if k < 40 then -1 else hI X 71 k) (d2 : hI h2 75 0 = hI X 75 0 ∧ hI h2 75 1 = nI 7 ∧ hI h2 75 2 = nI 14) (d3 : ∀ k o, (frA ++ frC)[k]? = some o → hI h2 74 k = encM o) : Rel h2 := by
  have k1 : hk h1 = 55 := by rw [Kf.1, kA]
  have l2 : ∀ n, n < 56 → hkd h2 n = hkd h1 n ∧ hln h2 n = hln h1 n ∧ hI h2 n = hI h1 n ∧ hL h2 n = hL h1 n ∧ hR h2 n = hR h1 n := fun n q => by
    obtain ⟨i1, i2, i3, i4, i5⟩ := lo n q
    rw [F.2.1, F.2.2.1, F.2.2.2.2.2 n (by omega), F.2.2.2.2.1, F.2.2.2.1, i1, i2, i3, i4, i5, hkd_newc, hln_newc, hI_newN (by omega), hL_newN (by omega), hR_newN (by omega), if_neg (by omega), if_neg (by omega)]
    exact ⟨rfl, rfl, rfl, rfl, rfl⟩
  have h2i : ∀ n, 1000 ≤ n → hkd h2 n = hkd h1 n ∧ hln h2 n = hln h1 n ∧ hR h2 n = hR h1 n ∧ hI h2 n = hI h1 n := fun n q => by
    obtain ⟨i1, i2, i3, i4, i5⟩ := hi n q
    rw [F.2.1, F.2.2.1, F.2.2.2.2.2 n (by omega), F.2.2.2.1, i1, i2, i3, i4, hkd_newc, hln_newc, hI_newN (by omega), hR_newN (by omega), if_neg (by omega), if_neg (by omega)]
    exact ⟨rfl, rfl, rfl, rfl⟩
  have S1 : Sh h1 := Kf.sh SA (by omega) (by omega)
  have e2 : hk h2 = 88 := by
    have : hk h2 = hk X := by unfold hk; rw [F.1]
    rw [this]; exact kX
  have S2 : Sh h2 := by
    refine ⟨by omega, fun n q => ?_, fun n f q => ?_⟩
    · rcases kd0_cl n q with w | w
      · obtain ⟨i1, i2, -⟩ := l2 n (by omega); rw [i1, i2]; exact S1.2.1 n q
      · obtain ⟨i1, i2, -⟩ := h2i n (by omega); rw [i1, i2]; exact S1.2.1 n q
    · rcases rf0_cl n f q with w | w
      · obtain ⟨-, -, -, -, i5⟩ := l2 n (by omega); rw [i5]; exact S1.2.2 n f q
      · obtain ⟨-, -, i5, -⟩ := h2i n (by omega); rw [i5]; exact S1.2.2 n f q
  have T2 : Sm h2 := F.sm TX
  have m2 : ∀ n, n ≠ 71 → n ≠ 74 → n ≠ 75 → hI h2 n = hI X n := fun n c1 c2 c3 => F.2.2.2.2.2 n (by omega)
  have L2 : Lt h2 := by
    refine ⟨?_, fun k hk => ?_, fun i j hi hj => ?_⟩
    · rw [(l2 0 (by omega)).1, (Kf.2.2.1 0 (by omega)).1]; exact A0
    · rw [F.2.2.2.2.1]; exact x85 k hk
    · obtain ⟨z1, z2⟩ := LA i j hi hj
      rw [(h2i _ (by omega)).2.2.2, (h2i _ (by omega)).2.2.2, Kf.2.2.2 _ (by omega) (by omega) (by omega), Kf.2.2.2 _ (by omega) (by omega) (by omega)]
      exact ⟨z1, z2⟩
  have gc : ∀ a, 2 ≤ a → a ≤ 52 → a ≠ 11 → a ≠ 12 → scrC a = false → hI h2 a = hI hA a := fun a w1 w2 w3 w4 w5 => by
    rw [(l2 a (by omega)).2.2.1]; exact c1 a w1 w2 w3 w4 w5
  obtain ⟨o1, o2, o3, o4⟩ := fr_ok
  refine st_rel0 S2 T2 L2 (fun f q => by rw [m2 56 (by omega) (by omega) (by omega)]; exact x56 f q) (fun j q => ?_) (by rw [gc 2 (by omega) (by omega) (by omega) (by omega) rfl]; exact a2) (fun k q => by rw [gc 3 (by omega) (by omega) (by omega) (by omega) rfl, gc 5 (by omega) (by omega) (by omega) (by omega) rfl, gc 6 (by omega) (by omega) (by omega) (by omega) rfl]; exact a3 k q) (by rw [gc 35 (by omega) (by omega) (by omega) (by omega) rfl]; exact a35) (fun k q => by rw [gc 33 (by omega) (by omega) (by omega) (by omega) rfl]; exact a33 k q) (fun s q => by rw [gc (45 + 2 * s) (by omega) (by omega) (by omega) (by omega) (by simp [scrC]; omega)]; exact a45 s q) (by rw [(l2 11 (by omega)).2.2.1]; exact c3) (fun k q => by rw [m2 57 (by omega) (by omega) (by omega)]; exact x57 k q) (fun k q => by rw [m2 58 (by omega) (by omega) (by omega)]; exact x58 k q) (fun k q => by rw [d1, if_pos q]) (fun k q => by rw [m2 72 (by omega) (by omega) (by omega)]; exact x72 k q) (fun s q => by rw [m2 82 (by omega) (by omega) (by omega), m2 83 (by omega) (by omega) (by omega)]; exact x82 s q) ⟨?_, ?_, Or.inl rfl, by omega, ?_, ?_, ?_, ?_, ?_, ?_, by rw [o1]; omega, ?_, by rw [d2.1]; exact x75, by rw [o2]; exact d2.2.1, by rw [o1]; exact d2.2.2, fr_op, fun k o z => ⟨?_, ?_⟩, o3, o4⟩
  · rw [(l2 1 (by omega)).2.2.1, c2]
    by_cases z : j = 11
    · rw [if_pos z, if_pos z]
    · rw [if_neg z, if_neg z]; exact a1 j q z
  · rw [(l2 17 (by omega)).2.2.2.2]; exact c4
  · rw [(l2 53 (by omega)).1]; exact c5.1
  · rw [(l2 53 (by omega)).2.2.2.2]; exact c7.1
  · rw [(l2 53 (by omega)).2.2.2.2]; exact c7.2
  · rw [(l2 54 (by omega)).1]; exact c5.2.1
  · rw [(l2 55 (by omega)).1]; exact c5.2.2
  · rw [o1, (l2 54 (by omega)).2.1]; exact c6.1
  · rw [o1, (l2 55 (by omega)).2.1]; exact c6.2
  · rw [o2, (l2 53 (by omega)).2.2.1]; exact c8
  · rw [(l2 54 (by omega)).2.2.1]; exact c9 k o z
  · rw [show 200 * 0 + k = k by omega]; exact d3 k o z
