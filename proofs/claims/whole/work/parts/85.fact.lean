/-! text: what a reading keeps -/
theorem rd_up {T V : Nat → Nat} {f l o t : Nat} {a : List tOp} (hl : l = 1 ∨ l = 2 ∨ l = 4 ∨ l = 5 ∨ l = 6) {r : tRs} (e : rd T V (f + 1) l o t a = some r) : ∃ q, rd T V f (l + 1) o t a = some q ∧ ((q.1 = true ∧ rd T V f (10 + l) o q.2.1 q.2.2 = some r) ∨ (q.1 = false ∧ r = q)) := by
  rw [rd, if_neg (by omega), if_neg (by omega), if_pos hl] at e
  cases h : rd T V f (l + 1) o t a with
  | none => rw [h] at e; exact absurd e (by simp)
  | some q =>
    rw [h] at e
    simp only at e
    by_cases b : q.1 = true
    · rw [if_pos b] at e; exact ⟨q, rfl, Or.inl ⟨b, e⟩⟩
    · rw [if_neg b] at e; cases e; exact ⟨r, rfl, Or.inr ⟨by simpa using b, rfl⟩⟩
theorem rd_n {T V : Nat → Nat} {f o t : Nat} {a : List tOp} {r : tRs} (e : rd T V (f + 1) 3 o t a = some r) : (T t = 132 ∧ 5 ≤ o ∧ r = (false, t, a)) ∨ (T t = 132 ∧ o < 5 ∧ ∃ q, rd T V f 3 (o + 1) (t + 1) a = some q ∧ ((q.1 = true ∧ r = (true, q.2.1, q.2.2 ++ [oNot])) ∨ (q.1 = false ∧ r = q))) ∨ (T t ≠ 132 ∧ rd T V f 4 o t a = some r) := by
  rw [rd, if_pos rfl] at e
  by_cases c : T t = 132
  · rw [if_pos c] at e
    by_cases o5 : 5 ≤ o
    · rw [if_pos o5] at e; cases e; exact Or.inl ⟨c, o5, rfl⟩
    · rw [if_neg o5] at e
      cases h : rd T V f 3 (o + 1) (t + 1) a with
      | none => rw [h] at e; exact absurd e (by simp)
      | some q =>
        rw [h] at e
        simp only at e
        by_cases b : q.1 = true
        · rw [if_pos b] at e; cases e; exact Or.inr (Or.inl ⟨c, by omega, q, rfl, Or.inl ⟨b, rfl⟩⟩)
        · rw [if_neg b] at e; cases e; exact Or.inr (Or.inl ⟨c, by omega, r, rfl, Or.inr ⟨by simpa using b, rfl⟩⟩)
  · rw [if_neg c] at e; exact Or.inr (Or.inr ⟨c, e⟩)
theorem rd_o {T V : Nat → Nat} {f o t : Nat} {a : List tOp} {r : tRs} (e : rd T V (f + 1) 7 o t a = some r) : (T t = 1 ∧ r = (true, t + 1, a ++ [.inl (V t)])) ∨ (T t ≠ 1 ∧ (133 ≤ T t ∧ T t < 139) ∧ r = (true, t + 1, a ++ [.inr (.inl (T t - 133))])) ∨ (T t ≠ 1 ∧ ¬ (133 ≤ T t ∧ T t < 139) ∧ 5 ≤ o ∧ r = (false, t, a)) ∨ (T t = 40 ∧ o < 5 ∧ ∃ q, rd T V f 1 (o + 1) (t + 1) a = some q ∧ ((q.1 = true ∧ T q.2.1 = 41 ∧ r = (true, q.2.1 + 1, q.2.2)) ∨ (q.1 = true ∧ T q.2.1 ≠ 41 ∧ r = (false, q.2.1, q.2.2)) ∨ (q.1 = false ∧ r = q))) ∨ (T t = 45 ∧ o < 5 ∧ ∃ q, rd T V f 7 (o + 1) (t + 1) a = some q ∧ ((q.1 = true ∧ r = (true, q.2.1, q.2.2 ++ [oNeg])) ∨ (q.1 = false ∧ r = q))) ∨ (T t ≠ 1 ∧ ¬ (133 ≤ T t ∧ T t < 139) ∧ o < 5 ∧ T t ≠ 40 ∧ T t ≠ 45 ∧ r = (false, t, a)) := by
  rw [rd, if_neg (by decide), if_pos rfl] at e
  by_cases c1 : T t = 1
  · rw [if_pos c1] at e; cases e; exact Or.inl ⟨c1, rfl⟩
  · rw [if_neg c1] at e
    by_cases c2 : 133 ≤ T t ∧ T t < 139
    · rw [if_pos c2] at e; cases e; exact Or.inr (Or.inl ⟨c1, c2, rfl⟩)
    · rw [if_neg c2] at e
      by_cases o5 : 5 ≤ o
      · rw [if_pos o5] at e; cases e; exact Or.inr (Or.inr (Or.inl ⟨c1, c2, o5, rfl⟩))
      · rw [if_neg o5] at e
        by_cases c4 : T t = 40
        · rw [if_pos c4] at e
          cases h : rd T V f 1 (o + 1) (t + 1) a with
          | none => rw [h] at e; exact absurd e (by simp)
          | some q =>
            rw [h] at e
            simp only at e
            refine Or.inr (Or.inr (Or.inr (Or.inl ⟨c4, by omega, q, rfl, ?_⟩)))
            by_cases b : q.1 = true
            · rw [if_pos b] at e
              by_cases c5 : T q.2.1 = 41
              · rw [if_pos c5] at e; cases e; exact Or.inl ⟨b, c5, rfl⟩
              · rw [if_neg c5] at e; cases e; exact Or.inr (Or.inl ⟨b, c5, rfl⟩)
            · rw [if_neg b] at e; cases e; exact Or.inr (Or.inr ⟨by simpa using b, rfl⟩)
        · rw [if_neg c4] at e
          by_cases c5 : T t = 45
          · rw [if_pos c5] at e
            cases h : rd T V f 7 (o + 1) (t + 1) a with
            | none => rw [h] at e; exact absurd e (by simp)
            | some q =>
              rw [h] at e
              simp only at e
              refine Or.inr (Or.inr (Or.inr (Or.inr (Or.inl ⟨c5, by omega, q, rfl, ?_⟩))))
              by_cases b : q.1 = true
              · rw [if_pos b] at e; cases e; exact Or.inl ⟨b, rfl⟩
              · rw [if_neg b] at e; cases e; exact Or.inr ⟨by simpa using b, rfl⟩
          · rw [if_neg c5] at e; cases e; exact Or.inr (Or.inr (Or.inr (Or.inr (Or.inr ⟨c1, c2, by omega, c4, c5, rfl⟩))))
theorem rd_lp {T V : Nat → Nat} {f l o t : Nat} {a : List tOp} (hl : l = 1 ∨ l = 2 ∨ l = 4 ∨ l = 5 ∨ l = 6) {r : tRs} (e : rd T V (f + 1) (10 + l) o t a = some r) : (sg2 l (T t) = none ∧ r = (true, t, a)) ∨ ∃ b q, sg2 l (T t) = some b ∧ rd T V f (l + 1) o (t + 1) a = some q ∧ ((q.1 = true ∧ l = 4 ∧ r = (true, q.2.1, q.2.2 ++ [oTwo b])) ∨ (q.1 = true ∧ l ≠ 4 ∧ rd T V f (10 + l) o q.2.1 (q.2.2 ++ [oTwo b]) = some r) ∨ (q.1 = false ∧ r = q)) := by
  rw [rd, if_neg (by omega), if_neg (by omega), if_neg (by omega), show 10 + l - 10 = l by omega] at e
  cases s : sg2 l (T t) with
  | none => rw [s] at e; cases e; exact Or.inl ⟨rfl, rfl⟩
  | some b =>
    rw [s] at e
    simp only at e
    cases h : rd T V f (l + 1) o (t + 1) a with
    | none => rw [h] at e; exact absurd e (by simp)
    | some q =>
      rw [h] at e
      simp only at e
      refine Or.inr ⟨b, q, rfl, rfl, ?_⟩
      by_cases c : q.1 = true
      · rw [if_pos c] at e
        by_cases l4 : l = 4
        · rw [if_pos (by omega)] at e; cases e; exact Or.inl ⟨c, l4, rfl⟩
        · rw [if_neg (by omega)] at e; exact Or.inr (Or.inl ⟨c, l4, e⟩)
      · rw [if_neg c] at e; cases e; exact Or.inr (Or.inr ⟨by simpa using c, rfl⟩)
def lvOk (l : Nat) : Prop := (1 ≤ l ∧ l ≤ 7) ∨ l = 11 ∨ l = 12 ∨ l = 14 ∨ l = 15 ∨ l = 16
theorem depL_app : ∀ (a b : List tOp) (n : Nat), depL (a ++ b) n = (depL a n).bind (depL b) := by
  intro a
  induction a with
  | nil => intro b n; rfl
  | cons o a ih =>
    intro b n
    rw [List.cons_append, depL, depL]
    cases depO n o with
    | none => rfl
    | some k => exact ih b k
theorem sg2_b {l c b : Nat} (h : sg2 l c = some b) : b < 7 := by
  obtain ⟨hl, -⟩ := sg2_some h
  unfold sg2 at h
  rcases hl with rfl | rfl | rfl | rfl | rfl
  · rw [if_pos rfl] at h; split at h <;> cases h; decide
  · rw [if_neg (by decide), if_pos rfl] at h; split at h <;> cases h; decide
  · rw [if_neg (by decide), if_neg (by decide), if_pos rfl] at h
    split at h
    · cases h; decide
    · split at h <;> cases h; decide
  · rw [if_neg (by decide), if_neg (by decide), if_neg (by decide), if_pos rfl] at h
    split at h
    · cases h; decide
    · split at h <;> cases h; decide
  · rw [if_neg (by decide), if_neg (by decide), if_neg (by decide), if_neg (by decide), if_pos rfl] at h; split at h <;> cases h; decide
theorem rd_fact {T V : Nat → Nat} {N : Nat} (hN : ∀ t, N ≤ t → T t = 0) (hV : ∀ k, T k = 1 → V k ≤ 9999) : ∀ (f l o t : Nat) (a : List tOp) (r : tRs), lvOk l → rd T V f l o t a = some r → t ≤ N → t ≤ r.2.1 ∧ r.2.1 ≤ N ∧ (r.1 = true → r.2.2.length + t ≤ a.length + r.2.1 ∧ ∃ s, r.2.2 = a ++ s ∧ (∀ x, x ∈ s → okOp x) ∧ ∀ n, depL s (if l < 10 then n else n + 1) = some (n + 1)) := by
  intro f
  induction f with
  | zero => intro l o t a r _ e; exact absurd e (by simp [rd])
  | succ f ih =>
    intro l o t a r hl e ht
    have lt : T t ≠ 0 → t < N := fun h => Classical.byContradiction fun w => h (hN t (by omega))
    have hx : (l = 1 ∨ l = 2 ∨ l = 4 ∨ l = 5 ∨ l = 6) ∨ l = 3 ∨ l = 7 ∨ ∃ k, l = 10 + k ∧ (k = 1 ∨ k = 2 ∨ k = 4 ∨ k = 5 ∨ k = 6) := by
      unfold lvOk at hl
      by_cases h10 : l < 10
      · rcases (by omega : (l = 1 ∨ l = 2 ∨ l = 4 ∨ l = 5 ∨ l = 6) ∨ l = 3 ∨ l = 7) with h | h | h
        · exact Or.inl h
        · exact Or.inr (Or.inl h)
        · exact Or.inr (Or.inr (Or.inl h))
      · exact Or.inr (Or.inr (Or.inr ⟨l - 10, by omega, by omega⟩))
    rcases hx with h | h | h | ⟨k, rfl, h⟩
    · obtain ⟨q, e1, ⟨b, e2⟩ | ⟨b, rfl⟩⟩ := rd_up h e
      · obtain ⟨a1, a2, a3⟩ := ih (l + 1) o t a q (by unfold lvOk; omega) e1 ht
        obtain ⟨b1, b2, b3⟩ := ih (10 + l) o q.2.1 q.2.2 r (by unfold lvOk; omega) e2 a2
        obtain ⟨c1, s1, c2, c3, c4⟩ := a3 b
        refine ⟨by omega, b2, fun w => ?_⟩
        obtain ⟨d1, s2, d2, d3, d4⟩ := b3 w
        refine ⟨by omega, s1 ++ s2, by rw [d2, c2, List.append_assoc], fun x hx => ?_, fun n => ?_⟩
        · rcases List.mem_append.mp hx with z | z
          · exact c3 x z
          · exact d3 x z
        · have x1 := c4 n
          have x2 := d4 n
          rw [if_pos (by omega)] at x1
          rw [if_neg (by omega)] at x2
          rw [if_pos (by omega), depL_app, x1]
          exact x2
      · obtain ⟨a1, a2, a3⟩ := ih (l + 1) o t a r (by unfold lvOk; omega) e1 ht
        exact ⟨a1, a2, fun w => absurd w (by rw [b]; decide)⟩
    · subst h
      rcases rd_n e with ⟨-, -, rfl⟩ | ⟨c, o5, q, e1, ⟨b, rfl⟩ | ⟨b, rfl⟩⟩ | ⟨c, e1⟩
      · exact ⟨Nat.le_refl _, ht, fun w => absurd w (by simp)⟩
      · obtain ⟨a1, a2, a3⟩ := ih 3 (o + 1) (t + 1) a q hl e1 (lt (by omega))
        obtain ⟨c1, s1, c2, c3, c4⟩ := a3 b
        refine ⟨by show t ≤ q.2.1; omega, a2, fun _ => ⟨?_, s1 ++ [oNot], ?_, fun x hx => ?_, fun n => ?_⟩⟩
        · show (q.2.2 ++ [oNot]).length + t ≤ a.length + q.2.1
          rw [List.length_append]
          show q.2.2.length + 1 + t ≤ _
          omega
        · show q.2.2 ++ [oNot] = _
          rw [c2, List.append_assoc]
        · rcases List.mem_append.mp hx with z | z
          · exact c3 x z
          · have : x = oNot := by simpa using z
            rw [this]; trivial
        · have x1 := c4 n
          rw [if_pos (by omega)] at x1 ⊢
          rw [depL_app, x1]
          show (depO (n + 1) oNot).bind _ = _
          simp only [depO]
          rw [if_pos (by omega)]
          rfl
      · obtain ⟨a1, a2, a3⟩ := ih 3 (o + 1) (t + 1) a r hl e1 (lt (by omega))
        exact ⟨by omega, a2, fun w => absurd w (by rw [b]; decide)⟩
      · obtain ⟨a1, a2, a3⟩ := ih 4 o t a r (by unfold lvOk; omega) e1 ht
        exact ⟨a1, a2, a3⟩
    · subst h
      rcases rd_o e with ⟨c, rfl⟩ | ⟨c, c2, rfl⟩ | ⟨-, -, -, rfl⟩ | ⟨c, o5, q, e1, ⟨b, b2, rfl⟩ | ⟨b, b2, rfl⟩ | ⟨b, rfl⟩⟩ | ⟨c, o5, q, e1, ⟨b, rfl⟩ | ⟨b, rfl⟩⟩ | ⟨-, -, -, -, -, rfl⟩
      · have ltt := lt (by rw [c]; decide)
        refine ⟨by show t ≤ t + 1; omega, ltt, fun _ => ⟨by show (a ++ _).length + t ≤ a.length + (t + 1); rw [List.length_append]; show a.length + 1 + t ≤ _; omega, [.inl (V t)], rfl, fun x hx => ?_, fun n => rfl⟩⟩
        have : x = .inl (V t) := by simpa using hx
        rw [this]; exact hV t c
      · have ltt := lt (by omega)
        refine ⟨by show t ≤ t + 1; omega, ltt, fun _ => ⟨by show (a ++ _).length + t ≤ a.length + (t + 1); rw [List.length_append]; show a.length + 1 + t ≤ _; omega, [.inr (.inl (T t - 133))], rfl, fun x hx => ?_, fun n => rfl⟩⟩
        have : x = .inr (.inl (T t - 133)) := by simpa using hx
        rw [this]; show T t - 133 < 6; omega
      · exact ⟨Nat.le_refl _, ht, fun w => absurd w (by simp)⟩
      · obtain ⟨a1, a2, a3⟩ := ih 1 (o + 1) (t + 1) a q (by unfold lvOk; omega) e1 (lt (by omega))
        obtain ⟨c1, s1, x2, c3, c4⟩ := a3 b
        have : q.2.1 < N := Classical.byContradiction fun w => by have := hN q.2.1 (by omega); omega
        refine ⟨by show t ≤ q.2.1 + 1; omega, this, fun _ => ⟨by show q.2.2.length + t ≤ a.length + (q.2.1 + 1); omega, s1, x2, c3, fun n => ?_⟩⟩
        have x1 := c4 n
        rw [if_pos (by omega)] at x1 ⊢
        exact x1
      · obtain ⟨a1, a2, a3⟩ := ih 1 (o + 1) (t + 1) a q (by unfold lvOk; omega) e1 (lt (by omega))
        exact ⟨by show t ≤ q.2.1; omega, a2, fun w => absurd w (by simp)⟩
      · obtain ⟨a1, a2, a3⟩ := ih 1 (o + 1) (t + 1) a r (by unfold lvOk; omega) e1 (lt (by omega))
        exact ⟨by omega, a2, fun w => absurd w (by rw [b]; decide)⟩
      · obtain ⟨a1, a2, a3⟩ := ih 7 (o + 1) (t + 1) a q hl e1 (lt (by omega))
        obtain ⟨c1, s1, c2, c3, c4⟩ := a3 b
        refine ⟨by show t ≤ q.2.1; omega, a2, fun _ => ⟨?_, s1 ++ [oNeg], ?_, fun x hx => ?_, fun n => ?_⟩⟩
        · show (q.2.2 ++ [oNeg]).length + t ≤ a.length + q.2.1
          rw [List.length_append]
          show q.2.2.length + 1 + t ≤ _
          omega
        · show q.2.2 ++ [oNeg] = _
          rw [c2, List.append_assoc]
        · rcases List.mem_append.mp hx with z | z
          · exact c3 x z
          · have : x = oNeg := by simpa using z
            rw [this]; trivial
        · have x1 := c4 n
          rw [if_pos (by omega)] at x1 ⊢
          rw [depL_app, x1]
          show (depO (n + 1) oNeg).bind _ = _
          simp only [depO]
          rw [if_pos (by omega)]
          rfl
      · obtain ⟨a1, a2, a3⟩ := ih 7 (o + 1) (t + 1) a r hl e1 (lt (by omega))
        exact ⟨by omega, a2, fun w => absurd w (by rw [b]; decide)⟩
      · exact ⟨Nat.le_refl _, ht, fun w => absurd w (by simp)⟩
    · rcases rd_lp h e with ⟨-, rfl⟩ | ⟨b, q, es, e1, hq⟩
      · exact ⟨Nat.le_refl _, ht, fun _ => ⟨Nat.le_refl _, [], by simp, fun x hx => absurd hx (by simp), fun n => by rw [if_neg (by omega)]; rfl⟩⟩
      · have s2 := sg2_some es
        have sb := sg2_b es
        obtain ⟨a1, a2, a3⟩ := ih (k + 1) o (t + 1) a q (by unfold lvOk; omega) e1 (lt s2.2.1)
        have go : q.1 = true → (q.2.2 ++ [oTwo b]).length + t ≤ a.length + q.2.1 ∧ ∃ s, q.2.2 ++ [oTwo b] = a ++ s ∧ (∀ x, x ∈ s → okOp x) ∧ ∀ n, depL s (n + 1) = some (n + 1) := by
          intro w
          obtain ⟨c1, s1, c2, c3, c4⟩ := a3 w
          refine ⟨by rw [List.length_append]; show q.2.2.length + 1 + t ≤ _; omega, s1 ++ [oTwo b], by rw [c2, List.append_assoc], fun x hx => ?_, fun n => ?_⟩
          · rcases List.mem_append.mp hx with z | z
            · exact c3 x z
            · have : x = oTwo b := by simpa using z
              rw [this]; exact sb
          · have x1 := c4 (n + 1)
            rw [if_pos (by omega)] at x1
            rw [depL_app, x1]
            show (depO (n + 1 + 1) (oTwo b)).bind _ = _
            simp only [depO]
            rw [if_pos (by omega)]
            rfl
        rcases hq with ⟨w, l4, rfl⟩ | ⟨w, l4, e2⟩ | ⟨w, rfl⟩
        · obtain ⟨g1, s, g2, g3, g4⟩ := go w
          exact ⟨by show t ≤ q.2.1; omega, a2, fun _ => ⟨g1, s, g2, g3, fun n => by rw [if_neg (by omega)]; exact g4 n⟩⟩
        · obtain ⟨g1, s, g2, g3, g4⟩ := go w
          obtain ⟨b1, b2, b3⟩ := ih (10 + k) o q.2.1 (q.2.2 ++ [oTwo b]) r (by unfold lvOk; omega) e2 a2
          refine ⟨by omega, b2, fun z => ?_⟩
          obtain ⟨d1, s2, d2, d3, d4⟩ := b3 z
          refine ⟨by omega, s ++ s2, by rw [d2, g2, List.append_assoc], fun x hx => ?_, fun n => ?_⟩
          · rcases List.mem_append.mp hx with z | z
            · exact g3 x z
            · exact d3 x z
          · have x2 := d4 n
            rw [if_neg (by omega)] at x2 ⊢
            rw [depL_app, g4 n]
            exact x2
        · exact ⟨by omega, a2, fun z => absurd z (by rw [w]; decide)⟩
