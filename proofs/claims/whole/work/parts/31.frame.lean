/-! what the relation rests on -/
theorem Inv_cg {m m' : am_M} (e : ∀ n, 57 ≤ n → n ≤ 84 → m' n = m n) (e2 : ∀ f, f < 44 → m' 56 f = m 56 f) (I : Inv m) : Inv m' := by
  simp (disch := omega) only [Inv, InvB, InvD, InvS, InvC, InvT, InvI, InvH, yY, yN, yD, yS, yC, yB, yT, yDr, ySh, e, e2]
  exact I
theorem CR_cg {m m' : am_M} {h : am_H} (e : ∀ n, 57 ≤ n → n ≤ 84 → m' n = m n) (e2 : ∀ f, f < 44 → m' 56 f = m 56 f) (I : CR m h) : CR m' h := by
  simp (disch := omega) only [CR, CrB, CrD, CrS, CrC, CrT, CrI, CrH, CrW, drumAt_, shakeAt_, cardAt_, textAt_, yY, yN, yD, yS, yC, yB, yT, yDr, ySh, e, e2]
  exact I
def wdL : List Int64 := [1952541541, 1667329132, 1818326117, 6709618, 1802071652, 474315584357, 431416239732, 431198598248, 28530, 6385252, 7237492]
def Lt (h : am_H) : Prop := hkd h 0 = 901 ∧ (∀ k, k < 11 → hL h 85 k = wdL.getD k 0) ∧ ∀ i j, i < 14 → j < am_sl.getD i 0 → hI h (1000001 + 2 * i) j = (am_sb.getD i []).getD j 0 ∧ hI h (1000000 + 2 * i) 1 = 0
def Rel (h : am_H) : Prop := Sh h ∧ Sm h ∧ Inv (hI h) ∧ CR (hI h) h ∧ Lt h
theorem kd0_st : ∀ n, n ≤ 52 → 1 ≤ n → kd0 n ≠ 999 ∧ kd0 n ≠ 7 := by decide
def Kq (h h' : am_H) : Prop := hk h' = hk h ∧ hkd h' = hkd h ∧ hln h' = hln h ∧ hR h' = hR h ∧ ∀ n j, scrC n = false → (n < 56 ∨ 88 < n) → (hkd h n = 7 → j ≠ 3) → (∀ q t, q < cl (hI h 1 11) → hR h 17 q = some t → n ≠ t + 2) → hI h' n j = hI h n j
theorem Kp.kq {h h' : am_H} (a : Kp h h') : Kq h h' := ⟨by rw [hk, a.1]; rfl, a.2.1, a.2.2.1, a.2.2.2.1, fun n j q1 _ q3 q4 => a.2.2.2.2.2.2 n j q1 q3 q4⟩
theorem Km.kq {h h' : am_H} (a : Km h h') : Kq h h' := ⟨by rw [hk, a.1]; rfl, a.2.1, a.2.2.1, a.2.2.2.1, fun n j _ q2 _ _ => a.2.2.2.2.2 n j (by simp [scrM]; omega)⟩
theorem CR_txt {m : am_M} {h : am_H} (C : CR m h) : ∀ q t, q < cl (hI h 1 11) → hR h 17 q = some t → hkd h t = 7 ∧ (t = 53 ∨ 88 < t) ∧ t + 2 ≤ hk h ∧ hkd h (t + 1) = 100 ∧ hkd h (t + 2) = 100 := by
  intro q t hq ht
  obtain ⟨-, e, -, hT⟩ := C.2.2.2.2.1
  rw [e] at hq
  obtain ⟨n, A, B, h1, h2, h3, h4, h5, h6, h7, h8, -⟩ := hT q hq
  rw [h1] at ht
  cases ht
  exact ⟨h2, h3, h4, h7, h8⟩
theorem Kq.cr {m : am_M} {h h' : am_H} (a : Kq h h') (S : Sh h) (C : CR m h) : CR m h' := by
  obtain ⟨a1, a2, a3, a4, a5⟩ := a
  have tx := CR_txt C
  have st : ∀ n, scrC n = false → n ≤ 52 → 1 ≤ n → hI h' n = hI h n := fun n q1 q2 q3 => funext fun j => a5 n j q1 (Or.inl (by omega)) (fun w => by
    have := kd0_st n q2 q3
    exact absurd ((S.2.1 n this.1).1.symm.trans w) this.2) (fun q t hq ht => by have := tx q t hq ht; omega)
  have dy : ∀ n, 88 < n → hkd h n ≠ 7 → hkd h n ≠ 100 → hI h' n = hI h n := fun n q1 q2 q3 => funext fun j => a5 n j (by simp [scrC]; omega) (Or.inr q1) (fun w => absurd w q2) (fun q t hq ht w => by have := tx q t hq ht; rw [w] at q3; exact q3 this.2.2.2.2)
  obtain ⟨⟨b1, b2, b3⟩, ⟨d1, d2⟩, ⟨s1, s2⟩, ⟨c1, c2, c3⟩, ⟨⟨t1, t2⟩, t3, t4, t5⟩, i1, h1, w1⟩ := C
  refine ⟨⟨?_, ?_, ?_⟩, ⟨?_, ?_⟩, ⟨?_, ?_⟩, ⟨?_, ?_, ?_⟩, ⟨⟨?_, ?_⟩, ?_, ?_, ?_⟩, ?_, ?_, ?_⟩
  · rw [st 1 rfl (by omega) (by omega)]; exact b1
  · rw [st 2 rfl (by omega) (by omega)]; exact b2
  · rw [st 3 rfl (by omega) (by omega), st 5 rfl (by omega) (by omega), st 6 rfl (by omega) (by omega)]; exact b3
  · rw [st 1 rfl (by omega) (by omega)]; exact d1
  · intro k hk
    obtain ⟨n, q1, q2, q3, q4, q5⟩ := d2 k hk
    exact ⟨n, by rw [a4]; exact q1, by rw [a2]; exact q2, q3, by rw [a1]; exact q4, by rw [dy n q3 (by omega) (by omega)]; exact q5⟩
  · rw [st 1 rfl (by omega) (by omega)]; exact s1
  · intro k hk
    obtain ⟨n, q1, q2, q3, q4, q5⟩ := s2 k hk
    exact ⟨n, by rw [a4]; exact q1, by rw [a2]; exact q2, q3, by rw [a1]; exact q4, by rw [dy n q3 (by omega) (by omega)]; exact q5⟩
  · rw [st 1 rfl (by omega) (by omega)]; exact c1
  · intro k hk
    obtain ⟨n, q1, q2, q3, q4, q5⟩ := c2 k hk
    exact ⟨n, by rw [a4]; exact q1, by rw [a2]; exact q2, q3, by rw [a1]; exact q4, by rw [dy n q3 (by omega) (by omega), a4]; exact q5⟩
  · rw [a4]; exact c3
  · rw [st 11 rfl (by omega) (by omega)]; exact t1
  · rw [st 12 rfl (by omega) (by omega)]; exact t2
  · rw [st 1 rfl (by omega) (by omega)]; exact t3
  · rw [st 1 rfl (by omega) (by omega)]; exact t4
  · intro t ht
    obtain ⟨n, A, B, q1, q2, q3, q4, q5, q6, q7, q8, q9, q10, q11, q12, q13⟩ := t5 t ht
    have en2 : hI h' n 2 = hI h n 2 := a5 n 2 (by simp [scrC]; omega) (by omega) (fun _ => by omega) (fun q t hq ht w => by have := tx q t hq ht; rw [w] at q2; omega)
    have en1 : hI h' (n + 1) = hI h (n + 1) := funext fun j => a5 (n + 1) j (by simp [scrC]; omega) (by omega) (fun w => by omega) (fun q t hq ht w => by
      have := tx q t hq ht
      rw [show n = t + 1 by omega] at q2; omega)
    refine ⟨n, A, B, by rw [a4]; exact q1, by rw [a2]; exact q2, q3, by rw [a1]; exact q4, by rw [a4]; exact q5, by rw [a4]; exact q6, by rw [a2]; exact q7, by rw [a2]; exact q8, by rw [a3]; exact q9, by rw [a3]; exact q10, q11, by rw [en2]; exact q12, ?_⟩
    rw [en1]; exact q13
  · simp only [CrI]
    rw [st 35 rfl (by omega) (by omega), st 37 rfl (by omega) (by omega), st 38 rfl (by omega) (by omega), st 39 rfl (by omega) (by omega), st 40 rfl (by omega) (by omega), st 41 rfl (by omega) (by omega), st 42 rfl (by omega) (by omega), st 43 rfl (by omega) (by omega)]
    exact i1
  · intro s hs
    rw [st (45 + 2 * s) (by simp [scrC]; omega) (by omega) (by omega), st (46 + 2 * s) (by simp [scrC]; omega) (by omega) (by omega)]
    exact h1 s hs
  · simp only [CrW]
    rw [st 33 rfl (by omega) (by omega), st 1 rfl (by omega) (by omega)]
    exact w1
theorem Km.rel {h h' : am_H} (a : Km h h') (R : Rel h) : Rel h' := by
  obtain ⟨S, T, I, C, L⟩ := R
  obtain ⟨a1, a2, a3, a4, a5, a6⟩ := id a
  have ep : ∀ n, 57 ≤ n → n ≤ 84 → hI h' n = hI h n := fun n q1 q2 => funext fun j => a6 n j (by simp [scrM]; omega)
  have ef : ∀ f, f < 44 → hI h' 56 f = hI h 56 f := fun f q => a6 56 f (by simp [scrM]; omega)
  refine ⟨a.sh S, a.sm T, Inv_cg ep ef I, CR_cg ep ef (a.kq.cr S C), ?_⟩
  exact ⟨by rw [a2]; exact L.1, fun k hk => by rw [a5]; exact L.2.1 k hk, fun i j hi hj => ⟨by rw [a6 _ _ (by simp [scrM]; omega)]; exact (L.2.2 i j hi hj).1, by rw [a6 _ _ (by simp [scrM]; omega)]; exact (L.2.2 i j hi hj).2⟩⟩
theorem km0_st : ∀ n, n ≤ 88 → 56 ≤ n → km0 n ≠ 999 ∧ km0 n ≠ 7 := by decide
theorem Kp.model {m : am_M} {h h' : am_H} (a : Kp h h') (T : Sm h) (C : CR m h) : ∀ n, 56 ≤ n → n ≤ 88 → hI h' n = hI h n := by
  obtain ⟨a1, a2, a3, a4, a5, a6, a7⟩ := id a
  have tx := CR_txt C
  refine fun n q1 q2 => funext fun j => a7 n j (by simp [scrC]; omega) (fun w => ?_) (fun q t hq ht => ?_)
  · have := km0_st n q2 q1
    exact absurd ((T.2.1 n this.1).1.symm.trans w) this.2
  · have := tx q t hq ht; omega
theorem Kp.rel {h h' : am_H} (a : Kp h h') (hb : hk h < 900000) (R : Rel h) : Rel h' := by
  obtain ⟨S, T, I, C, L⟩ := R
  have mo := a.model T C
  have ep : ∀ n, 57 ≤ n → n ≤ 84 → hI h' n = hI h n := fun n q1 q2 => mo n (by omega) (by omega)
  have ef : ∀ f, f < 44 → hI h' 56 f = hI h 56 f := fun f q => by rw [mo 56 (by omega) (by omega)]
  have tx := CR_txt C
  refine ⟨a.sh S, a.sm T, Inv_cg ep ef I, CR_cg ep ef (a.kq.cr S C), ?_⟩
  obtain ⟨a1, a2, a3, a4, a5, a6, a7⟩ := a
  refine ⟨by rw [a2]; exact L.1, fun k hk => by rw [a5 85 (by omega)]; exact L.2.1 k hk, fun i j hi hj => ⟨?_, by rw [a7 _ _ (by simp [scrC]; omega) (fun _ => by omega) (fun q t hq ht => by have := tx q t hq ht; omega)]; exact (L.2.2 i j hi hj).2⟩⟩
  rw [a7 _ _ (by simp [scrC]; omega) (fun w => ?_) (fun q t hq ht => by have := tx q t hq ht; omega)]
  · exact (L.2.2 i j hi hj).1
  · have : kd0 (1000001 + 2 * i) = 903 := by
      unfold kd0
      rw [if_pos (by omega), if_neg (by omega)]
    have := S.kd this rfl
    omega
