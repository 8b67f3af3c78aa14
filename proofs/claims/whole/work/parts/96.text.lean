/-! text: the relation after it -/
def Kx (k : Nat) (h h' : am_H) : Prop := hk h' = hk h + k ∧ hs h' ≤ hs h + 400 ∧ (∀ a, a ≤ hk h ∨ hk h + k < a → hkd h' a = hkd h a ∧ hln h' a = hln h a ∧ hL h' a = hL h a ∧ (a ≠ 17 → hR h' a = hR h a)) ∧ ∀ a, a = 0 ∨ 52 < a → a < 56 ∨ 88 < a → a ≤ hk h ∨ hk h + k < a → hI h' a = hI h a
theorem Fi.kp {P : Nat → Prop} {h h' : am_H} (F : Fi P h h') (w : ∀ n, P n → scrC n = true) : Kp h h' := by
  obtain ⟨a1, a2, a3, a4, a5, a6⟩ := F
  exact ⟨a1, a2, a3, a4, fun n _ => by rw [a5], a6 1 (fun z => absurd (w 1 z) (by decide)), fun n j q _ _ => by rw [a6 n (fun z => by rw [w n z] at q; exact absurd q (by decide))]⟩
theorem txt_rel {hc h2 : am_H} {k R : Nat} (Q : Rel hc) (hb : hk hc < 800000) (k3 : k ≤ 3) (K : Kx k hc h2) (eR : yT (hI hc) = R) (e17 : ∀ j, j < R → hR h2 17 j = hR hc 17 j) (est : ∀ a, 2 ≤ a → a ≤ 52 → a ≠ 11 → scrC a = false → hI h2 a = hI hc a) (e1 : ∀ j, j ≠ 11 → hI h2 1 j = hI hc 1 j) (em : ∀ n, 57 ≤ n → n ≤ 84 → n ≠ 74 → n ≠ 75 → hI h2 n = hI hc n) (e56 : ∀ f, f < 44 → f ≠ 22 → f ≠ 25 → hI h2 56 f = hI hc 56 f) (e74 : ∀ k, k < 200 * R → hI h2 74 k = hI hc 74 k) (e75 : ∀ k, k < 4 * R → hI h2 75 k = hI hc 75 k) (e22 : hI h2 56 22 = 0) (e11 : hI h2 11 1 = 0) {T' : Nat} (e25 : hI h2 56 25 = nI T') (e111 : hI h2 1 11 = nI T') (hT : T' = R ∨ (T' = R + 1 ∧ T' ≤ 6 ∧ ∃ n A B, textAt_ (hI h2) h2 R n A B)) : Rel h2 ∧ Gr hc h2 := by
  obtain ⟨S, T, I, C, L⟩ := Q
  have h8 : 88 ≤ hk hc := T.1
  obtain ⟨k1, k2, k3', k4⟩ := K
  have S2 : Sh h2 := by
    refine ⟨by omega, fun n q => ?_, fun n f q => ?_⟩
    · have w := kd0_cl n q
      rw [(k3' n (by omega)).1, (k3' n (by omega)).2.1]
      exact S.2.1 n q
    · have w := rf0_cl n f q
      rw [(k3' n (by omega)).2.2.2 (by omega)]
      exact S.2.2 n f q
  have T2 : Sm h2 := by
    refine ⟨by omega, fun n q => ?_, fun n f q => ?_⟩
    · have w := km0_cl n q
      rw [(k3' n (by omega)).1, (k3' n (by omega)).2.1]
      exact T.2.1 n q
    · have w := rg0_cl n f q
      rw [(k3' n (by omega)).2.2.2 (by omega)]
      exact T.2.2 n f q
  have L2 : Lt h2 := by
    refine ⟨by rw [(k3' 0 (by omega)).1]; exact L.1, fun j hj => ?_, fun i j hi hj => ?_⟩
    · rw [(k3' 85 (by omega)).2.2.1]; exact L.2.1 j hj
    · exact ⟨by rw [k4 _ (by omega) (by omega) (by omega)]; exact (L.2.2 i j hi hj).1, by rw [k4 _ (by omega) (by omega) (by omega)]; exact (L.2.2 i j hi hj).2⟩
  have hT1 : R ≤ T' ∧ T' ≤ 6 := by
    have := I.2.2.2.2.1.2.1.1.2
    unfold yT at eR
    omega
  have eT : yT (hI h2) = T' := by unfold yT; rw [e25]; exact n_cl (by omega)
  have eB0 : yB (hI h2) = 0 := by unfold yB; rw [e22]; rfl
  refine ⟨⟨S2, T2, ⟨?_, ?_, ?_, ?_, ⟨⟨?_, ?_⟩, ⟨?_, ?_⟩, ?_, ?_⟩, ?_, ?_⟩, ⟨?_, ⟨?_, ?_⟩, ⟨?_, ?_⟩, ⟨?_, ?_, ?_⟩, ⟨⟨?_, ?_⟩, ?_, ?_, ?_⟩, ?_, ?_, ?_⟩, L2⟩, k4 0 (by omega) (by omega) (by omega), (k3' 0 (by omega)).1, (k3' 0 (by omega)).2.1, by omega, k2⟩
  · simp (disch := omega) only [InvB, yN, em, e56]; exact I.1
  · simp (disch := omega) only [InvD, yD, em, e56]; exact I.2.1
  · simp (disch := omega) only [InvS, yS, em, e56]; exact I.2.2.1
  · simp (disch := omega) only [InvC, yC, yD, yS, yDr, ySh, em, e56]; exact I.2.2.2.1
  · rw [e22]; exact isN_of (Nat.zero_le 160) (by decide)
  · intro j hj; rw [eB0] at hj; exact absurd hj (Nat.not_lt_zero _)
  · rw [e25]; exact isN_of hT1.2 (by omega)
  · rw [eT]; have := I.2.2.2.2.1.2.1.2; omega
  · rw [e56 26 (by omega) (by omega) (by omega)]; exact I.2.2.2.2.1.2.2.1
  · rw [e56 26 (by omega) (by omega) (by omega), eT]; have := I.2.2.2.2.1.2.2.2; omega
  · simp (disch := omega) only [InvI, yN, yC, yD, yS, em, e56]; exact I.2.2.2.2.2.1
  · simp (disch := omega) only [InvH, em, e56]; exact I.2.2.2.2.2.2
  · simp (disch := omega) only [CrB, em, e56, e1, est 2 (by omega) (by omega) (by omega) rfl, est 3 (by omega) (by omega) (by omega) rfl, est 5 (by omega) (by omega) (by omega) rfl, est 6 (by omega) (by omega) (by omega) rfl]; exact C.1
  · rw [e1 4 (by omega), e56 4 (by omega) (by omega) (by omega)]; exact C.2.1.1
  · intro j hj
    have ey : yD (hI h2) = yD (hI hc) := by unfold yD; rw [e56 4 (by omega) (by omega) (by omega)]
    rw [ey] at hj
    obtain ⟨n, p1, p2, p3, p4, p5⟩ := C.2.1.2 j hj
    refine ⟨n, by rw [(k3' 7 (by omega)).2.2.2 (by omega)]; exact p1, by rw [(k3' n (by omega)).1]; exact p2, p3, by omega, ?_⟩
    rw [k4 n (by omega) (by omega) (by omega), em 59 (by omega) (by omega) (by omega) (by omega), em 60 (by omega) (by omega) (by omega) (by omega), em 61 (by omega) (by omega) (by omega) (by omega)]
    exact p5
  · rw [e1 5 (by omega), e56 8 (by omega) (by omega) (by omega)]; exact C.2.2.1.1
  · intro j hj
    have ey : yS (hI h2) = yS (hI hc) := by unfold yS; rw [e56 8 (by omega) (by omega) (by omega)]
    rw [ey] at hj
    obtain ⟨n, p1, p2, p3, p4, p5⟩ := C.2.2.1.2 j hj
    refine ⟨n, by rw [(k3' 8 (by omega)).2.2.2 (by omega)]; exact p1, by rw [(k3' n (by omega)).1]; exact p2, p3, by omega, ?_⟩
    rw [k4 n (by omega) (by omega) (by omega), em 62 (by omega) (by omega) (by omega) (by omega), em 63 (by omega) (by omega) (by omega) (by omega), em 64 (by omega) (by omega) (by omega) (by omega)]
    exact p5
  · rw [e1 6 (by omega), e56 12 (by omega) (by omega) (by omega)]; exact C.2.2.2.1.1
  · intro j hj
    have ey : yC (hI h2) = yC (hI hc) := by unfold yC; rw [e56 12 (by omega) (by omega) (by omega)]
    rw [ey] at hj
    obtain ⟨n, p1, p2, p3, p4, p5⟩ := C.2.2.2.1.2.1 j hj
    refine ⟨n, by rw [(k3' 9 (by omega)).2.2.2 (by omega)]; exact p1, by rw [(k3' n (by omega)).1]; exact p2, p3, by omega, ?_⟩
    simp only [yDr, ySh]
    rw [k4 n (by omega) (by omega) (by omega), (k3' n (by omega)).2.2.2 (by omega), (k3' 7 (by omega)).2.2.2 (by omega), (k3' 8 (by omega)).2.2.2 (by omega), em 65 (by omega) (by omega) (by omega) (by omega), em 68 (by omega) (by omega) (by omega) (by omega), em 69 (by omega) (by omega) (by omega) (by omega), em 66 (by omega) (by omega) (by omega) (by omega), em 67 (by omega) (by omega) (by omega) (by omega), em 70 (by omega) (by omega) (by omega) (by omega), em 71 (by omega) (by omega) (by omega) (by omega), em 72 (by omega) (by omega) (by omega) (by omega)]
    exact p5
  · intro i j hi hj e
    have ey : yC (hI h2) = yC (hI hc) := by unfold yC; rw [e56 12 (by omega) (by omega) (by omega)]
    rw [ey] at hi hj
    rw [(k3' 9 (by omega)).2.2.2 (by omega)] at e
    exact C.2.2.2.1.2.2 i j hi hj e
  · rw [e11, e22]
  · intro j hj; rw [eB0] at hj; exact absurd hj (Nat.not_lt_zero _)
  · rw [e111, e25]
  · rw [e1 12 (by omega), e56 26 (by omega) (by omega) (by omega)]; exact C.2.2.2.2.1.2.2.1
  · intro t ht
    rw [eT] at ht
    by_cases tR : t < R
    · obtain ⟨n, A, B, q1, q2, q3, q4, q5, q6, q7, q8, q9, q10, q11, q12, q13, q14, q15, q16, q17, q18⟩ := C.2.2.2.2.1.2.2.2 t (by omega)
      refine ⟨n, A, B, by rw [e17 t tR]; exact q1, by rw [(k3' n (by omega)).1]; exact q2, q3, by omega, by rw [(k3' n (by omega)).2.2.2 (by omega)]; exact q5, by rw [(k3' n (by omega)).2.2.2 (by omega)]; exact q6, by rw [(k3' _ (by omega)).1]; exact q7, by rw [(k3' _ (by omega)).1]; exact q8, by rw [(k3' _ (by omega)).2.1]; exact q9, by rw [(k3' _ (by omega)).2.1]; exact q10, q11, by rw [k4 n (by omega) (by omega) (by omega)]; exact q12, by rw [e75 _ (by omega)]; exact q13, by rw [e75 _ (by omega)]; exact q14, by rw [e75 _ (by omega)]; exact q15, q16, fun k o z => ?_, q18⟩
      have kl := (List.getElem?_eq_some_iff.mp z).1
      rw [k4 (n + 1) (by omega) (by omega) (by omega), e74 _ (by omega)]
      exact q17 k o z
    · rcases hT with w | ⟨w1, w2, w3⟩
      · omega
      · rw [show t = R by omega]; exact w3
  · simp (disch := omega) only [CrI, em, e56, e1, est 35 (by omega) (by omega) (by omega) rfl, est 37 (by omega) (by omega) (by omega) rfl, est 38 (by omega) (by omega) (by omega) rfl, est 39 (by omega) (by omega) (by omega) rfl, est 40 (by omega) (by omega) (by omega) rfl, est 41 (by omega) (by omega) (by omega) rfl, est 42 (by omega) (by omega) (by omega) rfl, est 43 (by omega) (by omega) (by omega) rfl]; exact C.2.2.2.2.2.1
  · intro s hs'
    rw [est (45 + 2 * s) (by omega) (by omega) (by omega) (by simp [scrC]; omega), est (46 + 2 * s) (by omega) (by omega) (by omega) (by simp [scrC]; omega), em 82 (by omega) (by omega) (by omega) (by omega), em 83 (by omega) (by omega) (by omega) (by omega), em 84 (by omega) (by omega) (by omega) (by omega)]
    exact C.2.2.2.2.2.2.1 s hs'
  · simp (disch := omega) only [CrW, em, e56, e1, est 33 (by omega) (by omega) (by omega) rfl]; exact C.2.2.2.2.2.2.2
