/-! start: the model's heap -/
def hB : am_H := ((56, 0), (fun _ => 11), (fun _ => 0), (fun _ _ => 0), (fun _ _ => 0), (fun _ _ => none))
def Sb (h h' : am_H) : Prop := hk h = hk h' ∧ ∀ n, 56 ≤ n → n ≤ hk h → hkd h n = hkd h' n ∧ hln h n = hln h' n ∧ hI h n = hI h' n ∧ hL h n = hL h' n ∧ hR h n = hR h' n
def midE (e : Ew) : Bool := match e with
  | .inl _ => true
  | .inr (.inl _) => false
  | .inr (.inr (.inl (n, _, _))) => decide (56 ≤ n)
  | .inr (.inr (.inr (.inl (n, _, _)))) => decide (56 ≤ n)
  | .inr (.inr (.inr (.inr (n, _, _)))) => decide (56 ≤ n)
theorem sb_ap {h h' : am_H} (S : Sb h h') : ∀ es, es.all midE = true → Sb (ap es h) (ap es h') := by
  intro es
  induction es with
  | nil => intro _; exact S
  | cons e es ih =>
    intro q
    rw [List.all_cons, Bool.and_eq_true] at q
    obtain ⟨q1, q2⟩ := q
    obtain ⟨s1, s2⟩ := ih q2
    rcases e with ⟨a, b, c⟩ | ⟨a, b⟩ | ⟨a, b, c⟩ | ⟨a, b, c⟩ | ⟨a, b, c⟩
    · refine ⟨?_, fun n n1 n2 => ?_⟩
      · show hk (ap es h) + 1 = hk (ap es h') + 1; rw [s1]
      · have n2' : n ≤ hk (ap es h) + 1 := n2
        show hkd (newc (ap es h) a b c) n = hkd (newc (ap es h') a b c) n ∧ hln (newc (ap es h) a b c) n = hln (newc (ap es h') a b c) n ∧ hI (newc (ap es h) a b c) n = hI (newc (ap es h') a b c) n ∧ hL (newc (ap es h) a b c) n = hL (newc (ap es h') a b c) n ∧ hR (newc (ap es h) a b c) n = hR (newc (ap es h') a b c) n
        by_cases z : n = hk (ap es h) + 1
        · rw [hkd_newc, hkd_newc, hln_newc, hln_newc, ← s1, if_pos z, if_pos z, if_pos z, if_pos z]
          refine ⟨rfl, rfl, funext fun j => ?_, funext fun j => ?_, funext fun j => ?_⟩
          · rw [hI_newc, hI_newc, ← s1, if_pos z, if_pos z]
          · rw [hL_newc, hL_newc, ← s1, if_pos z, if_pos z]
          · rw [hR_newc, hR_newc, ← s1, if_pos z, if_pos z]
        · obtain ⟨i1, i2, i3, i4, i5⟩ := s2 n n1 (by omega)
          rw [hkd_newc, hkd_newc, hln_newc, hln_newc, ← s1, if_neg z, if_neg z, if_neg z, if_neg z, hI_newN z, hI_newN (by rw [← s1]; exact z), hL_newN z, hL_newN (by rw [← s1]; exact z), hR_newN z, hR_newN (by rw [← s1]; exact z)]
          exact ⟨i1, i2, i3, i4, i5⟩
    · exact absurd q1 Bool.false_ne_true
    · refine ⟨s1, fun n n1 n2 => ?_⟩
      obtain ⟨i1, i2, i3, i4, i5⟩ := s2 n n1 n2
      refine ⟨i1, i2, i3, i4, funext fun j => ?_⟩
      show hR (setR (ap es h) a b (some c)) n j = hR (setR (ap es h') a b (some c)) n j
      rw [hR_eq, hR_eq, i5]
    · refine ⟨s1, fun n n1 n2 => ?_⟩
      obtain ⟨i1, i2, i3, i4, i5⟩ := s2 n n1 n2
      refine ⟨i1, i2, funext fun j => ?_, i4, i5⟩
      show (if n = a ∧ j = b then c else hI (ap es h) n j) = (if n = a ∧ j = b then c else hI (ap es h') n j)
      rw [i3]
    · refine ⟨s1, fun n n1 n2 => ?_⟩
      obtain ⟨i1, i2, i3, i4, i5⟩ := s2 n n1 n2
      refine ⟨i1, i2, i3, funext fun j => ?_, i5⟩
      show (if n = a ∧ j = b then c else hL (ap es h) n j) = (if n = a ∧ j = b then c else hL (ap es h') n j)
      rw [i4]
/-- what stood before -/
theorem lo_ap {h : am_H} (h5 : 55 ≤ hk h) : ∀ es, es.all midE = true → hk h ≤ hk (ap es h) ∧ ∀ n, n < 56 → hkd (ap es h) n = hkd h n ∧ hln (ap es h) n = hln h n ∧ hI (ap es h) n = hI h n ∧ hL (ap es h) n = hL h n ∧ hR (ap es h) n = hR h n := by
  intro es
  induction es with
  | nil => intro _; exact ⟨Nat.le_refl _, fun n _ => ⟨rfl, rfl, rfl, rfl, rfl⟩⟩
  | cons e es ih =>
    intro q
    rw [List.all_cons, Bool.and_eq_true] at q
    obtain ⟨q1, q2⟩ := q
    obtain ⟨s1, s2⟩ := ih q2
    rcases e with ⟨a, b, c⟩ | ⟨a, b⟩ | ⟨a, b, c⟩ | ⟨a, b, c⟩ | ⟨a, b, c⟩
    · refine ⟨by show hk h ≤ hk (ap es h) + 1; omega, fun n n1 => ?_⟩
      obtain ⟨i1, i2, i3, i4, i5⟩ := s2 n n1
      show hkd (newc (ap es h) a b c) n = _ ∧ hln (newc (ap es h) a b c) n = _ ∧ hI (newc (ap es h) a b c) n = _ ∧ hL (newc (ap es h) a b c) n = _ ∧ hR (newc (ap es h) a b c) n = _
      have k1 : 56 ≤ hk (ap es h) + 1 := by omega
      rw [hkd_newc, hln_newc, if_neg (by omega), if_neg (by omega), hI_newN (by omega), hL_newN (by omega), hR_newN (by omega)]
      exact ⟨i1, i2, i3, i4, i5⟩
    · exact absurd q1 Bool.false_ne_true
    · have := of_decide_eq_true q1
      exact ⟨s1, fun n n1 => ⟨(s2 n n1).1, (s2 n n1).2.1, (s2 n n1).2.2.1, (s2 n n1).2.2.2.1, (hR_ne (by omega)).trans (s2 n n1).2.2.2.2⟩⟩
    · have := of_decide_eq_true q1
      exact ⟨s1, fun n n1 => ⟨(s2 n n1).1, (s2 n n1).2.1, (hI_ne (by omega)).trans (s2 n n1).2.2.1, (s2 n n1).2.2.2.1, (s2 n n1).2.2.2.2⟩⟩
    · have := of_decide_eq_true q1
      exact ⟨s1, fun n n1 => ⟨(s2 n n1).1, (s2 n n1).2.1, (s2 n n1).2.2.1, (hL_ne (by omega)).trans (s2 n n1).2.2.2.1, (s2 n n1).2.2.2.2⟩⟩
theorem hs_ap {h h' : am_H} (z : hs h' = 0) : ∀ es, es.all midE = true → hs (ap es h) = hs h + hs (ap es h') := by
  intro es
  induction es with
  | nil => intro _; show hs h = hs h + hs h'; omega
  | cons e es ih =>
    intro q
    rw [List.all_cons, Bool.and_eq_true] at q
    obtain ⟨q1, q2⟩ := q
    have i := ih q2
    rcases e with ⟨a, b, c⟩ | ⟨a, b⟩ | ⟨a, b, c⟩ | ⟨a, b, c⟩ | ⟨a, b, c⟩
    · show hs (ap es h) + c = hs h + (hs (ap es h') + c); omega
    · exact absurd q1 Bool.false_ne_true
    · exact i
    · exact i
    · exact i
theorem bp_hk {h : am_H} {es : List Ew} (B : Sb h hB) (q : es.all midE = true) : hk (ap es h) = hk (ap es hB) := (sb_ap B es q).1
theorem bp {h : am_H} {es : List Ew} (B : Sb h hB) (q : es.all midE = true) {n : Nat} (w : 56 ≤ n ∧ n ≤ hk (ap es hB)) : hkd (ap es h) n = hkd (ap es hB) n ∧ hln (ap es h) n = hln (ap es hB) n ∧ hI (ap es h) n = hI (ap es hB) n ∧ hL (ap es h) n = hL (ap es hB) n ∧ hR (ap es h) n = hR (ap es hB) n := by
  obtain ⟨s1, s2⟩ := sb_ap B es q
  exact s2 n w.1 (by rw [s1]; exact w.2)
