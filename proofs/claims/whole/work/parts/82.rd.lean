/-! text: the reading from without to within -/
/-- a reading: whether all could stand, the token where it stopped, what came out -/
abbrev tRs : Type := Bool × Nat × List tOp
abbrev oNot : tOp := .inr (.inr (.inl true))
abbrev oNeg : tOp := .inr (.inr (.inl false))
abbrev oTwo (b : Nat) : tOp := .inr (.inr (.inr b))
/-- which sign of two a token of a rank is -/
def sg2 (l c : Nat) : Option Nat :=
  if l = 1 then (if c = 130 then some 0 else none)
  else if l = 2 then (if c = 131 then some 1 else none)
  else if l = 4 then (if c = 60 then some 2 else if c = 61 then some 3 else none)
  else if l = 5 then (if c = 43 then some 4 else if c = 45 then some 5 else none)
  else if l = 6 then (if c = 42 then some 6 else none)
  else none
/-- the reading from without to within: ranks 1 or, 2 and, 3 not, 4 compared, 5 sum, 6 term, 7 one; 10 + rank: what may follow -/
def rd (T V : Nat → Nat) : Nat → Nat → Nat → Nat → List tOp → Option tRs
  | 0, _, _, _, _ => none
  | f + 1, l, o, t, a =>
    if l = 3 then
      (if T t = 132 then
        (if 5 ≤ o then some (false, t, a)
         else match rd T V f 3 (o + 1) (t + 1) a with
          | none => none
          | some r => if r.1 = true then some (true, r.2.1, r.2.2 ++ [oNot]) else some r)
       else rd T V f 4 o t a)
    else if l = 7 then
      (if T t = 1 then some (true, t + 1, a ++ [.inl (V t)])
       else if 133 ≤ T t ∧ T t < 139 then some (true, t + 1, a ++ [.inr (.inl (T t - 133))])
       else if 5 ≤ o then some (false, t, a)
       else if T t = 40 then
        (match rd T V f 1 (o + 1) (t + 1) a with
          | none => none
          | some r => if r.1 = true then (if T r.2.1 = 41 then some (true, r.2.1 + 1, r.2.2) else some (false, r.2.1, r.2.2)) else some r)
       else if T t = 45 then
        (match rd T V f 7 (o + 1) (t + 1) a with
          | none => none
          | some r => if r.1 = true then some (true, r.2.1, r.2.2 ++ [oNeg]) else some r)
       else some (false, t, a))
    else if l = 1 ∨ l = 2 ∨ l = 4 ∨ l = 5 ∨ l = 6 then
      (match rd T V f (l + 1) o t a with
        | none => none
        | some r => if r.1 = true then rd T V f (10 + l) o r.2.1 r.2.2 else some r)
    else
      (match sg2 (l - 10) (T t) with
        | none => some (true, t, a)
        | some b => match rd T V f (l - 10 + 1) o (t + 1) a with
          | none => none
          | some r => if r.1 = true then (if l = 14 then some (true, r.2.1, r.2.2 ++ [oTwo b]) else rd T V f l o r.2.1 (r.2.2 ++ [oTwo b])) else some r)
theorem rd_mono {T V : Nat → Nat} : ∀ (f l o t : Nat) (a : List tOp) (r : tRs), rd T V f l o t a = some r → rd T V (f + 1) l o t a = some r := by
  intro f
  induction f with
  | zero => intro l o t a r e; exact absurd e (by simp [rd])
  | succ f ih =>
    intro l o t a r e
    rw [rd] at e ⊢
    by_cases l3 : l = 3
    · rw [if_pos l3] at e ⊢
      by_cases c : T t = 132
      · rw [if_pos c] at e ⊢
        by_cases o5 : 5 ≤ o
        · rw [if_pos o5] at e ⊢; exact e
        · rw [if_neg o5] at e ⊢
          cases h : rd T V f 3 (o + 1) (t + 1) a with
          | none => rw [h] at e; exact absurd e (by simp)
          | some q => rw [h] at e; rw [ih _ _ _ _ _ h]; exact e
      · rw [if_neg c] at e ⊢; exact ih _ _ _ _ _ e
    · rw [if_neg l3] at e ⊢
      by_cases l7 : l = 7
      · rw [if_pos l7] at e ⊢
        split at e
        · rename_i c; rw [if_pos c]; exact e
        · rename_i c; rw [if_neg c]
          split at e
          · rename_i c2; rw [if_pos c2]; exact e
          · rename_i c2; rw [if_neg c2]
            split at e
            · rename_i c3; rw [if_pos c3]; exact e
            · rename_i c3; rw [if_neg c3]
              split at e
              · rename_i c4; rw [if_pos c4]
                cases h : rd T V f 1 (o + 1) (t + 1) a with
                | none => rw [h] at e; exact absurd e (by simp)
                | some q => rw [h] at e; rw [ih _ _ _ _ _ h]; exact e
              · rename_i c4; rw [if_neg c4]
                split at e
                · rename_i c5; rw [if_pos c5]
                  cases h : rd T V f 7 (o + 1) (t + 1) a with
                  | none => rw [h] at e; exact absurd e (by simp)
                  | some q => rw [h] at e; rw [ih _ _ _ _ _ h]; exact e
                · rename_i c5; rw [if_neg c5]; exact e
      · rw [if_neg l7] at e ⊢
        by_cases lx : l = 1 ∨ l = 2 ∨ l = 4 ∨ l = 5 ∨ l = 6
        · rw [if_pos lx] at e ⊢
          cases h : rd T V f (l + 1) o t a with
          | none => rw [h] at e; exact absurd e (by simp)
          | some q =>
            rw [h] at e; rw [ih _ _ _ _ _ h]
            simp only at e ⊢
            by_cases c : q.1 = true
            · rw [if_pos c] at e ⊢; exact ih _ _ _ _ _ e
            · rw [if_neg c] at e ⊢; exact e
        · rw [if_neg lx] at e ⊢
          cases s : sg2 (l - 10) (T t) with
          | none => rw [s] at e; exact e
          | some b =>
            rw [s] at e
            simp only at e ⊢
            cases h : rd T V f (l - 10 + 1) o (t + 1) a with
            | none => rw [h] at e; exact absurd e (by simp)
            | some q =>
              rw [h] at e; rw [ih _ _ _ _ _ h]
              simp only at e ⊢
              by_cases c : q.1 = true
              · rw [if_pos c] at e ⊢
                by_cases l14 : l = 14
                · rw [if_pos l14] at e ⊢; exact e
                · rw [if_neg l14] at e ⊢; exact ih _ _ _ _ _ e
              · rw [if_neg c] at e ⊢; exact e
theorem rd_le {T V : Nat → Nat} {l o t : Nat} {a : List tOp} {r : tRs} {f g : Nat} (e : rd T V f l o t a = some r) (h : f ≤ g) : rd T V g l o t a = some r := by
  obtain ⟨k, rfl⟩ := Nat.exists_eq_add_of_le h
  clear h
  induction k with
  | zero => exact e
  | succ k ih => exact rd_mono _ _ _ _ _ _ ih
