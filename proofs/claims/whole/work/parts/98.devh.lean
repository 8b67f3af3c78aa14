/-! start: both stand, and are alike -/
theorem y_1 : (∀ f, f < 20 → f ≠ 11 → hI (ap ev_a57 h00) 1 f = 0) ∧ hI (ap ev_a57 h00) 2 2 = 0 ∧ (∀ k, k < 5 → hI (ap ev_a57 h00) 3 k = 0 ∧ hI (ap ev_a57 h00) 5 k = 0 ∧ hI (ap ev_a57 h00) 6 k = 0) ∧ hI (ap ev_a57 h00) 35 0 = 0 ∧ (∀ k, k < 3 → hI (ap ev_a57 h00) 33 k = 0) ∧ ∀ s, s < 4 → hI (ap ev_a57 h00) (45 + 2 * s) 1 = -1 ∧ hI (ap ev_a57 h00) (45 + 2 * s) 2 = 0 := by decide +kernel
theorem y_2 : (∀ f, f < 44 → hI (ap ev_bX hB) 56 f = if f = 25 then 1 else 0) ∧ (∀ k, k < 5 → hI (ap ev_bX hB) 57 k = 0) ∧ (∀ k, k < 10 → hI (ap ev_bX hB) 58 k = 0) ∧ (∀ k, k < 40 → hI (ap ev_bX hB) 72 k = 0) ∧ (∀ s, s < 4 → hI (ap ev_bX hB) 82 s = -1 ∧ hI (ap ev_bX hB) 83 s = 0) ∧ (∀ k, k < 11 → hL (ap ev_bX hB) 85 k = wdL.getD k 0) ∧ hI (ap ev_bX hB) 75 0 = 0 := by decide +kernel
theorem y_hs : hs (ap ev_a57 h00) + hs (ap ev_bX hB) ≤ 40000 := by decide +kernel
theorem y_low : ev_bX.all lowE = true := by decide +kernel
theorem fr_ok : (frA ++ frC).length = 14 ∧ frA.length = 7 ∧ depL frA 0 = some 1 ∧ depL frC 0 = some 1 := by decide +kernel
theorem fr_op : ∀ o, o ∈ frA ++ frC → okOp o := by
  intro o ho
  have e : frA ++ frC = [.inr (.inl 0), .inl 50, .inr (.inr (.inr 2)), .inr (.inl 3), .inl 4, .inr (.inr (.inr 2)), .inr (.inr (.inr 1)), .inr (.inl 1), .inl 100, .inr (.inr (.inr 2)), .inl 4, .inr (.inl 2), .inr (.inr (.inr 3)), .inr (.inr (.inr 0))] := rfl
  rw [e] at ho
  simp only [List.mem_cons, List.not_mem_nil, or_false] at ho
  rcases ho with rfl | rfl | rfl | rfl | rfl | rfl | rfl | rfl | rfl | rfl | rfl | rfl | rfl | rfl <;> simp [okOp]
/-- what stands so is alike -/
theorem st_rel0 {h2 : am_H} (S2 : Sh h2) (T2 : Sm h2) (L2 : Lt h2) (f56 : ∀ f, f < 44 → hI h2 56 f = if f = 25 then 1 else 0) (g1 : ∀ j, j < 20 → hI h2 1 j = if j = 11 then 1 else 0) (g2 : hI h2 2 2 = 0) (g3 : ∀ k, k < 5 → hI h2 3 k = 0 ∧ hI h2 5 k = 0 ∧ hI h2 6 k = 0) (g35 : hI h2 35 0 = 0) (g33 : ∀ k, k < 3 → hI h2 33 k = 0) (g45 : ∀ s, s < 4 → hI h2 (45 + 2 * s) 1 = -1 ∧ hI h2 (45 + 2 * s) 2 = 0) (g11 : hI h2 11 1 = 0) (m57 : ∀ k, k < 5 → hI h2 57 k = 0) (m58 : ∀ k, k < 10 → hI h2 58 k = 0) (m71 : ∀ k, k < 40 → hI h2 71 k = -1) (m72 : ∀ k, k < 40 → hI h2 72 k = 0) (m82 : ∀ s, s < 4 → hI h2 82 s = -1 ∧ hI h2 83 s = 0) (TX : textAt_ (hI h2) h2 0 53 frA frC) : Rel h2 := by
  have f0 : ∀ f, f < 44 → f ≠ 25 → hI h2 56 f = 0 := fun f q z => by rw [f56 f q, if_neg z]
  have iz : ∀ b, b < 2147483648 → isN (0 : Int32) b := fun b hb => isN_of (a := 0) (Nat.zero_le b) hb
  have yN0 : yN (hI h2) = 0 := by unfold yN; rw [f0 1 (by omega) (by omega)]; rfl
  have yD0 : yD (hI h2) = 0 := by unfold yD; rw [f0 4 (by omega) (by omega)]; rfl
  have yS0 : yS (hI h2) = 0 := by unfold yS; rw [f0 8 (by omega) (by omega)]; rfl
  have yC0 : yC (hI h2) = 0 := by unfold yC; rw [f0 12 (by omega) (by omega)]; rfl
  have yB0 : yB (hI h2) = 0 := by unfold yB; rw [f0 22 (by omega) (by omega)]; rfl
  have yT1 : yT (hI h2) = 1 := by unfold yT; rw [f56 25 (by omega), if_pos rfl]; rfl
  have g0 : ∀ j, j < 20 → j ≠ 11 → hI h2 1 j = 0 := fun j q z => by rw [g1 j q, if_neg z]
  refine ⟨S2, T2, ⟨⟨?_, ?_, ?_⟩, ⟨?_, ?_⟩, ⟨?_, ?_⟩, ⟨?_, ?_, ?_⟩, ⟨⟨?_, ?_⟩, ⟨?_, ?_⟩, ?_, ?_⟩, ?_, ?_⟩, ⟨⟨?_, ?_, ?_⟩, ⟨?_, ?_⟩, ⟨?_, ?_⟩, ⟨?_, ?_, ?_⟩, ⟨⟨?_, ?_⟩, ?_, ?_, ?_⟩, ?_, ?_, ?_⟩, L2⟩
  · rw [f0 0 (by omega) (by omega)]; exact iz 999 (by omega)
  · rw [f0 1 (by omega) (by omega)]; exact iz 5 (by omega)
  · rw [yN0]; exact ⟨by omega, by show 0 ≤ 590; omega, fun k hk => absurd hk (Nat.not_lt_zero _)⟩
  · rw [f0 4 (by omega) (by omega)]; exact iz 8 (by omega)
  · intro k hk; rw [yD0] at hk; exact absurd hk (Nat.not_lt_zero _)
  · rw [f0 8 (by omega) (by omega)]; exact iz 6 (by omega)
  · intro k hk; rw [yS0] at hk; exact absurd hk (Nat.not_lt_zero _)
  · rw [f0 12 (by omega) (by omega)]; exact iz 40 (by omega)
  · intro k hk; rw [yC0] at hk; exact absurd hk (Nat.not_lt_zero _)
  · intro k _ hk; exact ⟨m71 k hk, m72 k hk⟩
  · rw [f0 22 (by omega) (by omega)]; exact iz 160 (by omega)
  · intro k hk; rw [yB0] at hk; exact absurd hk (Nat.not_lt_zero _)
  · rw [f56 25 (by omega), if_pos rfl]; exact isN_of (a := 1) (by omega) (by omega)
  · rw [yT1]; exact Nat.le_refl _
  · rw [f0 26 (by omega) (by omega)]; rfl
  · rw [f0 26 (by omega) (by omega), yT1]; exact Nat.zero_lt_one
  · exact Or.inl (f0 31 (by omega) (by omega))
  · intro s hs'; obtain ⟨z1, z2⟩ := m82 s hs'; rw [z1, z2]; exact ⟨Or.inl rfl, iz 40 (by omega), fun _ => rfl⟩
  · rw [g0 7 (by omega) (by omega), f0 0 (by omega) (by omega)]
  · rw [g2, f0 1 (by omega) (by omega)]
  · intro k hk; obtain ⟨z1, z2, z3⟩ := g3 k hk; rw [z1, z2, z3, m57 k hk, m58 k (by omega), m58 (5 + k) (by omega)]; exact ⟨rfl, rfl, rfl⟩
  · rw [g0 4 (by omega) (by omega), f0 4 (by omega) (by omega)]
  · intro k hk; rw [yD0] at hk; exact absurd hk (Nat.not_lt_zero _)
  · rw [g0 5 (by omega) (by omega), f0 8 (by omega) (by omega)]
  · intro k hk; rw [yS0] at hk; exact absurd hk (Nat.not_lt_zero _)
  · rw [g0 6 (by omega) (by omega), f0 12 (by omega) (by omega)]
  · intro k hk; rw [yC0] at hk; exact absurd hk (Nat.not_lt_zero _)
  · intro j k hj; rw [yC0] at hj; exact absurd hj (Nat.not_lt_zero _)
  · rw [g11, f0 22 (by omega) (by omega)]
  · intro k hk; rw [yB0] at hk; exact absurd hk (Nat.not_lt_zero _)
  · rw [g1 11 (by omega), f56 25 (by omega), if_pos rfl, if_pos rfl]
  · rw [g0 12 (by omega) (by omega), f0 26 (by omega) (by omega)]
  · intro t ht; rw [yT1] at ht; rw [show t = 0 by omega]; exact ⟨53, frA, frC, TX⟩
  · exact ⟨by rw [g35, f0 31 (by omega) (by omega)], fun z => by rw [f0 31 (by omega) (by omega)] at z; exact absurd z (by decide)⟩
  · intro s hs'; obtain ⟨z1, z2⟩ := m82 s hs'; obtain ⟨z3, z4⟩ := g45 s hs'; rw [z1, z2, z3, z4]; exact ⟨rfl, rfl, fun w => absurd rfl w⟩
  · exact ⟨by rw [g33 0 (by omega), f0 27 (by omega) (by omega)], by rw [g33 1 (by omega), f0 28 (by omega) (by omega)], by rw [g33 2 (by omega), f0 29 (by omega) (by omega)], by rw [g0 17 (by omega) (by omega), f0 30 (by omega) (by omega)]⟩
