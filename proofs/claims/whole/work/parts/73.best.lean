/-! place: the best of all -/
def lexLe (o1 p1 i1 o2 p2 i2 : Nat) : Prop := o1 < o2 ∨ (o1 = o2 ∧ (p1 < p2 ∨ (p1 = p2 ∧ i1 ≤ i2)))
def Best (okc : Nat → Nat → Bool) (off : Nat → Nat → Nat) (S : Nat → Nat → Prop) : Option (Nat × Nat) → Prop
  | none => ∀ p i, S p i → okc p i = false
  | some b => (S b.1 b.2 ∧ okc b.1 b.2 = true) ∧ ∀ p' i', S p' i' → okc p' i' = true → lexLe (off b.1 b.2) b.1 b.2 (off p' i') p' i'
theorem best_uniq {okc : Nat → Nat → Bool} {off : Nat → Nat → Nat} {S : Nat → Nat → Prop} : ∀ {b b' : Option (Nat × Nat)}, Best okc off S b → Best okc off S b' → b = b' := by
  intro b b' h h'
  cases b with
  | none =>
    cases b' with
    | none => rfl
    | some q =>
      have := h q.1 q.2 h'.1.1
      rw [h'.1.2] at this
      exact absurd this (by decide)
  | some p =>
    cases b' with
    | none =>
      have := h' p.1 p.2 h.1.1
      rw [h.1.2] at this
      exact absurd this (by decide)
    | some q =>
      have a := h.2 q.1 q.2 h'.1.1 h'.1.2
      have b := h'.2 p.1 p.2 h.1.1 h.1.2
      unfold lexLe at a b
      obtain ⟨p1, p2⟩ := p
      obtain ⟨q1, q2⟩ := q
      have e1 : p1 = q1 := by simp only at a b; omega
      have e2 : p2 = q2 := by simp only at a b; omega
      rw [e1, e2]
theorem best_cg {okc : Nat → Nat → Bool} {off : Nat → Nat → Nat} {S S' : Nat → Nat → Prop} (e : ∀ p i, S' p i ↔ S p i) : ∀ {b : Option (Nat × Nat)}, Best okc off S b → Best okc off S' b := by
  intro b h
  cases b with
  | none => exact fun p i q => h p i ((e p i).mp q)
  | some x => exact ⟨⟨(e _ _).mpr h.1.1, h.1.2⟩, fun p i q => h.2 p i ((e p i).mp q)⟩
theorem best_no {okc : Nat → Nat → Bool} {off : Nat → Nat → Nat} {S S' : Nat → Nat → Prop} {p i : Nat} (e : ∀ p' i', S' p' i' ↔ S p' i' ∨ (p' = p ∧ i' = i)) (k : okc p i = false) : ∀ {b : Option (Nat × Nat)}, Best okc off S b → Best okc off S' b := by
  intro b h
  cases b with
  | none =>
    intro p' i' q
    rcases (e p' i').mp q with q | ⟨q1, q2⟩
    · exact h p' i' q
    · rw [q1, q2]; exact k
  | some x =>
    refine ⟨⟨(e _ _).mpr (Or.inl h.1.1), h.1.2⟩, fun p' i' q o => ?_⟩
    rcases (e p' i').mp q with q | ⟨q1, q2⟩
    · exact h.2 p' i' q o
    · rw [q1, q2, k] at o
      exact absurd o (by decide)
theorem best_new {okc : Nat → Nat → Bool} {off : Nat → Nat → Nat} {S S' : Nat → Nat → Prop} {p i : Nat} (e : ∀ p' i', S' p' i' ↔ S p' i' ∨ (p' = p ∧ i' = i)) (k : okc p i = true) {b : Option (Nat × Nat)} (h : Best okc off S b) (w : ∀ x, b = some x → lexLe (off p i) p i (off x.1 x.2) x.1 x.2) : Best okc off S' (some (p, i)) := by
  refine ⟨⟨(e _ _).mpr (Or.inr ⟨rfl, rfl⟩), k⟩, fun p' i' q o => ?_⟩
  show lexLe (off p i) p i (off p' i') p' i'
  rcases (e p' i').mp q with q | ⟨q1, q2⟩
  · cases b with
    | none =>
      have := h p' i' q
      rw [this] at o
      exact absurd o (by decide)
    | some x =>
      have a := w x rfl
      have b := h.2 p' i' q o
      unfold lexLe at a b ⊢
      omega
  · rw [q1, q2]
    exact Or.inr ⟨rfl, Or.inr ⟨rfl, Nat.le_refl _⟩⟩
theorem best_old {okc : Nat → Nat → Bool} {off : Nat → Nat → Nat} {S S' : Nat → Nat → Prop} {p i : Nat} (e : ∀ p' i', S' p' i' ↔ S p' i' ∨ (p' = p ∧ i' = i)) {x : Nat × Nat} (h : Best okc off S (some x)) (w : lexLe (off x.1 x.2) x.1 x.2 (off p i) p i) : Best okc off S' (some x) := by
  refine ⟨⟨(e _ _).mpr (Or.inl h.1.1), h.1.2⟩, fun p' i' q o => ?_⟩
  rcases (e p' i').mp q with q | ⟨q1, q2⟩
  · exact h.2 p' i' q o
  · rw [q1, q2]; exact w
def offR (ho : am_F) (mid : Int32) : Nat → Nat → Nat → Nat
  | 0, _, a => a
  | j + 1, k, a => offR ho mid j (k + 1) (a + ((ho k).toInt - mid.toInt).natAbs)
theorem offR_cg {ho ho' : am_F} {mid : Int32} : ∀ (j k a : Nat), (∀ q, k ≤ q → q < k + j → ho q = ho' q) → offR ho mid j k a = offR ho' mid j k a := by
  intro j
  induction j with
  | zero => intro k a _; rfl
  | succ j ih =>
    intro k a e
    rw [offR, offR, e k (by omega) (by omega)]
    exact ih _ _ (fun q h1 h2 => e q (by omega) (by omega))
def hrOk (x : Int32) : Prop := -400000 ≤ x.toInt ∧ x.toInt ≤ 10000098
theorem offR_le {ho : am_F} {mid : Int32} (hm : hrOk mid) : ∀ (j k a : Nat), (∀ q, k ≤ q → q < k + j → hrOk (ho q)) → offR ho mid j k a ≤ a + 10400098 * j := by
  intro j
  induction j with
  | zero => intro k a _; exact Nat.le_refl _
  | succ j ih =>
    intro k a e
    rw [offR]
    have := ih (k + 1) (a + ((ho k).toInt - mid.toInt).natAbs) (fun q h1 h2 => e q (by omega) (by omega))
    have q := e k (by omega) (by omega)
    unfold hrOk at q hm
    omega
theorem hr_abs {a b : Int32} (ha : hrOk a) (hb : hrOk b) : (if 0 ≤ a - b then a - b else 0 - (a - b)) = nI (a.toInt - b.toInt).natAbs ∧ (if b ≤ a then a - b else b - a) = nI (a.toInt - b.toInt).natAbs ∧ (a.toInt - b.toInt).natAbs ≤ 10400098 := by
  unfold hrOk at ha hb
  have e0 : (0 : Int32).toInt = 0 := rfl
  have d : (a - b).toInt = a.toInt - b.toInt := by
    rw [Int32.toInt_sub, Int.bmod_eq_of_le (by omega) (by omega)]
  have d2 : (b - a).toInt = b.toInt - a.toInt := by
    rw [Int32.toInt_sub, Int.bmod_eq_of_le (by omega) (by omega)]
  have d3 : (0 - (a - b)).toInt = b.toInt - a.toInt := by
    rw [Int32.toInt_sub, d, e0, Int.bmod_eq_of_le (by omega) (by omega)]; omega
  refine ⟨?_, ?_, by omega⟩
  · by_cases q : 0 ≤ a - b
    · rw [if_pos q]
      rw [Int32.le_iff_toInt_le, d, e0] at q
      apply Int32.toInt_inj.mp
      rw [d, nI_ti (by omega)]; omega
    · rw [if_neg q]
      rw [Int32.le_iff_toInt_le, d, e0] at q
      apply Int32.toInt_inj.mp
      rw [d3, nI_ti (by omega)]; omega
  · by_cases q : b ≤ a
    · rw [if_pos q]
      rw [Int32.le_iff_toInt_le] at q
      apply Int32.toInt_inj.mp
      rw [d, nI_ti (by omega)]; omega
    · rw [if_neg q]
      rw [Int32.le_iff_toInt_le] at q
      apply Int32.toInt_inj.mp
      rw [d2, nI_ti (by omega)]; omega
theorem lI_lt {a b : Nat} (ha : a < 9223372036854775808) (hb : b < 9223372036854775808) : (lI a < lI b) = (a < b) := by
  apply propext
  rw [Int64.lt_iff_toInt_lt, lI_toInt ha, lI_toInt hb]
  omega
