/-! one call of the law: both answer alike, and the relation stands -/
def Gr (h h' : am_H) : Prop := hI h' 0 = hI h 0 ∧ hkd h' 0 = hkd h 0 ∧ hln h' 0 = hln h 0 ∧ hk h' ≤ hk h + 16 ∧ hs h' ≤ hs h + 400
def Stq (d jc jm : Nat) (as : List am_V) (h : am_H) : Prop := ∃ v h1 h2, Cl d jc (vr (some 1) :: as) h = some (some v, h1) ∧ Cl d jm (vr (some 56) :: as) h1 = some (some v, h2) ∧ Rel h2 ∧ Gr h h2
theorem Gr.rf {h : am_H} : Gr h h := ⟨rfl, rfl, rfl, Nat.le_add_right _ _, Nat.le_add_right _ _⟩
theorem hI_ne {h : am_H} {n i a : Nat} {v : Int32} (q : a ≠ n) : hI (setI h n i v) a = hI h a := funext fun j => if_neg (fun w => q w.1)
theorem hI_eq {h : am_H} {n i j : Nat} {v : Int32} : hI (setI h n i v) n j = if j = i then v else hI h n j := by
  show (if _ then _ else _) = _
  by_cases q : j = i
  · rw [if_pos q, if_pos ⟨rfl, q⟩]
  · rw [if_neg q, if_neg (fun w => q w.2)]
theorem Kp.gr {h h' : am_H} (a : Kp h h') (L : Lt h) : hI h' 0 = hI h 0 ∧ hkd h' 0 = hkd h 0 ∧ hln h' 0 = hln h 0 ∧ hk h' = hk h ∧ hs h' = hs h := by
  obtain ⟨a1, a2, a3, a4, a5, a6, a7⟩ := a
  refine ⟨funext fun j => a7 0 j rfl (fun w => ?_) (fun q t _ _ w => by omega), by rw [a2], by rw [a3], by rw [hk, a1]; rfl, by rw [hs, a1]; rfl⟩
  have := L.1
  omega
theorem Km.gr {h h' : am_H} (a : Km h h') : hI h' 0 = hI h 0 ∧ hkd h' 0 = hkd h 0 ∧ hln h' 0 = hln h 0 ∧ hk h' = hk h ∧ hs h' = hs h := by
  obtain ⟨a1, a2, a3, a4, a5, a6⟩ := a
  exact ⟨funext fun j => a6 0 j rfl, by rw [a2], by rw [a3], by rw [hk, a1]; rfl, by rw [hs, a1]; rfl⟩
/-- a call that only answers -/
theorem stp_pure {d jc jm : Nat} {as : List am_V} {h h1 : am_H} {v : am_V} (R : Rel h) (hb : hk h < 900000) (e1 : Cl d jc (vr (some 1) :: as) h = some (some v, h1)) (k1 : Kp h h1) (e2 : Rel h1 → (∀ n, 56 ≤ n → n ≤ 88 → hI h1 n = hI h n) → ∃ h2, Cl d jm (vr (some 56) :: as) h1 = some (some v, h2) ∧ Km h1 h2) : Stq d jc jm as h := by
  have R1 := k1.rel hb R
  obtain ⟨h2, e3, k2⟩ := e2 R1 (k1.model R.2.1 R.2.2.2.1)
  refine ⟨v, h1, h2, e1, e3, k2.rel R1, ?_⟩
  obtain ⟨a1, a2, a3, a4, a5⟩ := k1.gr R.2.2.2.2
  obtain ⟨b1, b2, b3, b4, b5⟩ := k2.gr
  exact ⟨b1.trans a1, b2.trans a2, b3.trans a3, by omega, by omega⟩
/-- nothing happens -/
theorem stp_same {d jc jm : Nat} {as : List am_V} {h : am_H} {v : am_V} (R : Rel h) (e1 : Cl d jc (vr (some 1) :: as) h = some (some v, h)) (e2 : Cl d jm (vr (some 56) :: as) h = some (some v, h)) : Stq d jc jm as h := ⟨v, h, h, e1, e2, R, Gr.rf⟩
/-- the objects that came and come are as they were -/
def Kd (c : Nat) (h h' : am_H) : Prop := h'.1 = h.1 ∧ hkd h' = hkd h ∧ hln h' = hln h ∧ hR h' = hR h ∧ hL h' = hL h ∧ ∀ n, n = 0 ∨ 52 < n → n < 56 ∨ 88 < n → hkd h n ≠ c → hI h' n = hI h n
theorem Kd.si {c : Nat} {h h' : am_H} (K : Kd c h h') {n i : Nat} {v : Int32} (q : (1 ≤ n ∧ n ≤ 52) ∨ (56 ≤ n ∧ n ≤ 88)) : Kd c h (setI h' n i v) := ⟨K.1, K.2.1, K.2.2.1, K.2.2.2.1, K.2.2.2.2.1, fun a q1 q2 q3 => by rw [hI_ne (by omega)]; exact K.2.2.2.2.2 a q1 q2 q3⟩
theorem Kd.di {c : Nat} {h h' : am_H} (K : Kd c h h') {n i : Nat} {v : Int32} (q : hkd h n = c) : Kd c h (setI h' n i v) := ⟨K.1, K.2.1, K.2.2.1, K.2.2.2.1, K.2.2.2.2.1, fun a q1 q2 q3 => by rw [hI_ne (fun e => q3 (by rw [e]; exact q))]; exact K.2.2.2.2.2 a q1 q2 q3⟩
theorem Kd.rf {c : Nat} {h : am_H} : Kd c h h := ⟨rfl, rfl, rfl, rfl, rfl, fun _ _ _ _ => rfl⟩
theorem Kd.sh {c : Nat} {h h' : am_H} (a : Kd c h h') (S : Sh h) : Sh h' := ⟨by rw [hk, a.1]; exact S.1, fun n q => by rw [a.2.1, a.2.2.1]; exact S.2.1 n q, fun n f q => by rw [a.2.2.2.1]; exact S.2.2 n f q⟩
theorem Kd.sm {c : Nat} {h h' : am_H} (a : Kd c h h') (S : Sm h) : Sm h' := ⟨by rw [hk, a.1]; exact S.1, fun n q => by rw [a.2.1, a.2.2.1]; exact S.2.1 n q, fun n f q => by rw [a.2.2.2.1]; exact S.2.2 n f q⟩
theorem lit_kd {h : am_H} (S : Sh h) {i : Nat} (hi : i < 14) : hkd h (1000001 + 2 * i) = 903 := S.kd (by
  unfold kd0
  rw [if_pos (by omega), if_neg (by omega)]) rfl
theorem lit_kd2 {h : am_H} (S : Sh h) {i : Nat} (hi : i < 14) : hkd h (1000000 + 2 * i) = 902 := S.kd (by
  unfold kd0
  rw [if_pos (by omega), if_pos (by omega)]) rfl
theorem Kd.lt {c : Nat} {h h' : am_H} (a : Kd c h h') (S : Sh h) (L : Lt h) (q : c ≠ 903 ∧ c ≠ 901 ∧ c ≠ 902) : Lt h' := ⟨by rw [a.2.1]; exact L.1, fun k hk => by rw [a.2.2.2.2.1]; exact L.2.1 k hk, fun i j hi hj => ⟨by rw [a.2.2.2.2.2 _ (by omega) (by omega) (by rw [lit_kd S hi]; omega)]; exact (L.2.2 i j hi hj).1, by rw [a.2.2.2.2.2 _ (by omega) (by omega) (by rw [lit_kd2 S hi]; omega)]; exact (L.2.2 i j hi hj).2⟩⟩
theorem Kd.gr {c : Nat} {h h' : am_H} (a : Kd c h h') (L : Lt h) (q : c ≠ 903 ∧ c ≠ 901) : Gr h h' := by
  obtain ⟨a1, a2, a3, a4, a5, a6⟩ := a
  exact ⟨a6 0 (by omega) (by omega) (by rw [L.1]; omega), by rw [a2], by rw [a3], by rw [hk, a1]; exact Nat.le_add_right _ _, by rw [hs, a1]; exact Nat.le_add_right _ _⟩
theorem Kd.d {c : Nat} {m m' : am_M} {h h' : am_H} (K : Kd c h h') (hc : c ≠ 8) (C : CrD m h) (q1 : hI h' 1 4 = hI h 1 4) (q2 : m' 56 4 = m 56 4) (q3 : ∀ k, k < 8 → m' 59 k = m 59 k ∧ m' 60 k = m 60 k ∧ m' 61 k = m 61 k) (h8 : yD m ≤ 8) : CrD m' h' := by
  obtain ⟨k1, k2, k3, k4, k5, k6⟩ := K
  have ek : hk h' = hk h := congrArg (fun q => q.1) k1
  refine ⟨q1.trans (C.1.trans q2.symm), fun k hk => ?_⟩
  rw [show yD m' = yD m by unfold yD; rw [q2]] at hk
  obtain ⟨n, n1, n2, n3, n4, n5⟩ := C.2 k hk
  obtain ⟨w1, w2, w3⟩ := q3 k (by omega)
  exact ⟨n, by rw [k4]; exact n1, by rw [k2]; exact n2, n3, by rw [ek]; exact n4, by rw [k6 n (by omega) (by omega) (by omega), w1, w2, w3]; exact n5⟩
theorem Kd.s {c : Nat} {m m' : am_M} {h h' : am_H} (K : Kd c h h') (hc : c ≠ 9) (C : CrS m h) (q1 : hI h' 1 5 = hI h 1 5) (q2 : m' 56 8 = m 56 8) (q3 : ∀ k, k < 6 → m' 62 k = m 62 k ∧ m' 63 k = m 63 k ∧ m' 64 k = m 64 k) (h8 : yS m ≤ 6) : CrS m' h' := by
  obtain ⟨k1, k2, k3, k4, k5, k6⟩ := K
  have ek : hk h' = hk h := congrArg (fun q => q.1) k1
  refine ⟨q1.trans (C.1.trans q2.symm), fun k hk => ?_⟩
  rw [show yS m' = yS m by unfold yS; rw [q2]] at hk
  obtain ⟨n, n1, n2, n3, n4, n5⟩ := C.2 k hk
  obtain ⟨w1, w2, w3⟩ := q3 k (by omega)
  exact ⟨n, by rw [k4]; exact n1, by rw [k2]; exact n2, n3, by rw [ek]; exact n4, by rw [k6 n (by omega) (by omega) (by omega), w1, w2, w3]; exact n5⟩
theorem Kd.c {c : Nat} {m m' : am_M} {h h' : am_H} (K : Kd c h h') (hc : c ≠ 10) (C : CrC m h) (q1 : hI h' 1 6 = hI h 1 6) (q2 : m' 56 12 = m 56 12) (q3 : ∀ n, 65 ≤ n → n ≤ 72 → m' n = m n) : CrC m' h' := by
  obtain ⟨k1, k2, k3, k4, k5, k6⟩ := K
  have ek : hk h' = hk h := congrArg (fun q => q.1) k1
  refine ⟨q1.trans (C.1.trans q2.symm), fun k hk => ?_, fun j k hj hk e => ?_⟩
  · rw [show yC m' = yC m by unfold yC; rw [q2]] at hk
    obtain ⟨n, n1, n2, n3, n4, n5⟩ := C.2.1 k hk
    exact ⟨n, by rw [k4]; exact n1, by rw [k2]; exact n2, n3, by rw [ek]; exact n4, by
      simp only [yDr, ySh]
      rw [k6 n (by omega) (by omega) (by omega), k4, q3 65 (by omega) (by omega), q3 68 (by omega) (by omega), q3 69 (by omega) (by omega), q3 66 (by omega) (by omega), q3 67 (by omega) (by omega), q3 70 (by omega) (by omega), q3 71 (by omega) (by omega), q3 72 (by omega) (by omega)]
      exact n5⟩
  · rw [show yC m' = yC m by unfold yC; rw [q2]] at hk hj
    rw [k4] at e
    exact C.2.2 j k hj hk e
theorem Kd.t {c : Nat} {m m' : am_M} {h h' : am_H} (K : Kd c h h') (hc : c ≠ 7 ∧ c ≠ 100) (C : ∀ t, t < yT m → ∃ n A B, textAt_ m h t n A B) (q2 : m' 56 25 = m 56 25) (q3 : m' 74 = m 74) (q4 : m' 75 = m 75) : ∀ t, t < yT m' → ∃ n A B, textAt_ m' h' t n A B := by
  obtain ⟨k1, k2, k3, k4, k5, k6⟩ := K
  have ek : hk h' = hk h := congrArg (fun q => q.1) k1
  intro t ht
  rw [show yT m' = yT m by unfold yT; rw [q2]] at ht
  obtain ⟨n, A, B, n1, n2, n3, n4, n5, n6, n7, n8, n9, n10, n11, n12, n13⟩ := C t ht
  refine ⟨n, A, B, by rw [k4]; exact n1, by rw [k2]; exact n2, n3, by rw [ek]; exact n4, by rw [k4]; exact n5, by rw [k4]; exact n6, by rw [k2]; exact n7, by rw [k2]; exact n8, by rw [k3]; exact n9, by rw [k3]; exact n10, n11, ?_⟩
  have w : n + 1 < 56 ∨ 88 < n + 1 := by rcases n3 with q | q <;> omega
  have w1 : n < 56 ∨ 88 < n := by rcases n3 with q | q <;> omega
  rw [k6 n (by omega) w1 (by omega), k6 (n + 1) (by omega) w (by omega), q3, q4]
  exact ⟨n12, n13⟩
