/-! text: the reading with signs held back -/
def rkS (s : Nat) : Nat := if s = 0 then 0 else if s = 11 then 1 else if s = 12 then 2 else if s = 13 then 3 else if s ≤ 15 then 4 else if s ≤ 17 then 5 else if s = 18 then 6 else 7
def opS (s : Nat) : tOp := if s = 11 then oTwo 0 else if s = 12 then oTwo 1 else if s = 13 then oNot else if s = 14 then oTwo 2 else if s = 15 then oTwo 3 else if s = 16 then oTwo 4 else if s = 17 then oTwo 5 else if s = 18 then oTwo 6 else oNeg
def cntS : List Nat → Nat
  | [] => 0
  | s :: st => (if s = 0 ∨ s = 13 ∨ s = 19 then 1 else 0) + cntS st
def unw (l : Nat) : List Nat → List tOp → List Nat × List tOp
  | [], a => ([], a)
  | s :: st, a => if l ≤ rkS s then unw l st (a ++ [opS s]) else (s :: st, a)
def topR : List Nat → Nat
  | [] => 0
  | s :: _ => rkS s
def sgT (c : Nat) : Option Nat := if c = 130 then some 11 else if c = 131 then some 12 else if c = 60 then some 14 else if c = 61 then some 15 else if c = 43 then some 16 else if c = 45 then some 17 else if c = 42 then some 18 else none
/-- the reading with signs held back; w: 0 a sign is due, 1 an operand, 2 an operand or not -/
def ms (T V : Nat → Nat) : Nat → Nat → List Nat → Nat → List tOp → Option tRs
  | 0, _, _, _, _ => none
  | f + 1, t, st, w, a =>
    if w = 0 then
      (if T t = 59 then (if (unw 1 st a).1 = [] then some (true, t + 1, (unw 1 st a).2) else some (false, t, []))
       else if T t = 41 then
        (match (unw 1 st a).1 with
          | [] => some (false, t, [])
          | _ :: s => ms T V f (t + 1) (unw 7 s (unw 1 st a).2).1 0 (unw 7 s (unw 1 st a).2).2)
       else match sgT (T t) with
        | none => some (false, t, [])
        | some s => if rkS s = 4 ∧ topR (unw (if rkS s = 4 then 5 else rkS s) st a).1 = 4 then some (false, t, [])
          else ms T V f (t + 1) (s :: (unw (if rkS s = 4 then 5 else rkS s) st a).1) (if s ≤ 12 then 2 else 1) (unw (if rkS s = 4 then 5 else rkS s) st a).2)
    else if T t = 1 then ms T V f (t + 1) (unw 7 st (a ++ [.inl (V t)])).1 0 (unw 7 st (a ++ [.inl (V t)])).2
    else if 133 ≤ T t ∧ T t < 139 then ms T V f (t + 1) (unw 7 st (a ++ [.inr (.inl (T t - 133))])).1 0 (unw 7 st (a ++ [.inr (.inl (T t - 133))])).2
    else if T t = 132 ∧ w = 2 then (if cntS st = 5 then some (false, t, []) else ms T V f (t + 1) (13 :: st) w a)
    else if T t = 45 then (if cntS st = 5 then some (false, t, []) else ms T V f (t + 1) (19 :: st) 1 a)
    else if T t = 40 then (if cntS st = 5 then some (false, t, []) else ms T V f (t + 1) (0 :: st) 2 a)
    else some (false, t, [])
def topLt (l : Nat) (st : List Nat) : Prop := st = [] ∨ topR st < l
theorem unw_app {l : Nat} {st : List Nat} (h : topLt l st) : ∀ (ro : List Nat) (a : List tOp), (∀ x, x ∈ ro → l ≤ rkS x) → unw l (ro ++ st) a = (st, a ++ ro.map opS) := by
  intro ro
  induction ro with
  | nil =>
    intro a _
    rw [List.nil_append, List.map_nil, List.append_nil]
    cases st with
    | nil => rfl
    | cons s st =>
      rcases h with h | h
      · exact absurd h (by simp)
      · rw [unw, if_neg (by have : rkS s < l := h; omega)]
  | cons x ro ih =>
    intro a q
    rw [List.cons_append, unw, if_pos (q x (by simp)), ih _ (fun y hy => q y (by simp [hy]))]
    simp
def fol (l : Nat) (ro : List Nat) (c : Nat) : Prop := (l ≤ 1 → c ≠ 130) ∧ (l ≤ 2 → c ≠ 131) ∧ (l ≤ 4 → c = 60 ∨ c = 61 → ∃ r2 x r1, ro = r2 ++ x :: r1 ∧ (∀ y, y ∈ r2 → 5 ≤ rkS y) ∧ rkS x = 4) ∧ (l ≤ 5 → c ≠ 43 ∧ c ≠ 45) ∧ (l ≤ 6 → c ≠ 42)
theorem fol_app {l : Nat} {ro r : List Nat} {c : Nat} (h : fol l ro c) : fol l (ro ++ r) c := by
  obtain ⟨a, b, d, e, g⟩ := h
  refine ⟨a, b, fun q w => ?_, e, g⟩
  obtain ⟨r2, x, r1, e1, e2, e3⟩ := d q w
  exact ⟨r2, x, r1 ++ r, by rw [e1]; simp, e2, e3⟩
theorem topLt_mono {l l' : Nat} {st : List Nat} (h : topLt l st) (q : l ≤ l') : topLt l' st := by
  rcases h with h | h
  · exact Or.inl h
  · exact Or.inr (by omega)
theorem sg2_some {l c b : Nat} (h : sg2 l c = some b) : (l = 1 ∨ l = 2 ∨ l = 4 ∨ l = 5 ∨ l = 6) ∧ c ≠ 0 ∧ c ≠ 59 ∧ c ≠ 41 ∧ ∃ s, sgT c = some s ∧ rkS s = l ∧ opS s = oTwo b ∧ (s ≤ 12 ↔ l ≤ 2) ∧ ¬ (s = 0 ∨ s = 13 ∨ s = 19) := by
  unfold sg2 at h
  split at h
  · split at h
    · cases h; subst_vars; exact ⟨by omega, by omega, by omega, by omega, 11, by decide, by decide, by rfl, by decide, by decide⟩
    · exact absurd h (by simp)
  · split at h
    · split at h
      · cases h; subst_vars; exact ⟨by omega, by omega, by omega, by omega, 12, by decide, by decide, by rfl, by decide, by decide⟩
      · exact absurd h (by simp)
    · split at h
      · split at h
        · cases h; subst_vars; exact ⟨by omega, by omega, by omega, by omega, 14, by decide, by decide, by rfl, by decide, by decide⟩
        · split at h
          · cases h; subst_vars; exact ⟨by omega, by omega, by omega, by omega, 15, by decide, by decide, by rfl, by decide, by decide⟩
          · exact absurd h (by simp)
      · split at h
        · split at h
          · cases h; subst_vars; exact ⟨by omega, by omega, by omega, by omega, 16, by decide, by decide, by rfl, by decide, by decide⟩
          · split at h
            · cases h; subst_vars; exact ⟨by omega, by omega, by omega, by omega, 17, by decide, by decide, by rfl, by decide, by decide⟩
            · exact absurd h (by simp)
        · split at h
          · split at h
            · cases h; subst_vars; exact ⟨by omega, by omega, by omega, by omega, 18, by decide, by decide, by rfl, by decide, by decide⟩
            · exact absurd h (by simp)
          · exact absurd h (by simp)
theorem sg2_none {l c : Nat} {ro : List Nat} (h : sg2 l c = none) (hl : l = 1 ∨ l = 2 ∨ l = 4 ∨ l = 5 ∨ l = 6) (F : fol (l + 1) ro c) : fol l ro c := by
  obtain ⟨a, b, d, e, g⟩ := F
  unfold sg2 at h
  rcases hl with rfl | rfl | rfl | rfl | rfl
  · refine ⟨fun _ w => ?_, fun _ => b (by omega), fun _ => d (by omega), fun _ => e (by omega), fun _ => g (by omega)⟩
    rw [if_pos rfl, if_pos w] at h; exact absurd h (by simp)
  · refine ⟨fun w => by omega, fun _ w => ?_, fun _ => d (by omega), fun _ => e (by omega), fun _ => g (by omega)⟩
    rw [if_neg (by decide), if_pos rfl, if_pos w] at h; exact absurd h (by simp)
  · refine ⟨fun w => by omega, fun w => by omega, fun _ w => ?_, fun _ => e (by omega), fun _ => g (by omega)⟩
    rw [if_neg (by decide), if_neg (by decide), if_pos rfl] at h
    rcases w with w | w
    · rw [if_pos w] at h; exact absurd h (by simp)
    · rw [if_neg (by omega), if_pos w] at h; exact absurd h (by simp)
  · refine ⟨fun w => by omega, fun w => by omega, fun w => by omega, fun _ => ?_, fun _ => g (by omega)⟩
    rw [if_neg (by decide), if_neg (by decide), if_neg (by decide), if_pos rfl] at h
    refine ⟨fun w => ?_, fun w => ?_⟩
    · rw [if_pos w] at h; exact absurd h (by simp)
    · rw [if_neg (by omega), if_pos w] at h; exact absurd h (by simp)
  · refine ⟨fun w => by omega, fun w => by omega, fun w => by omega, fun w => by omega, fun _ w => ?_⟩
    rw [if_neg (by decide), if_neg (by decide), if_neg (by decide), if_neg (by decide), if_pos rfl, if_pos w] at h
    exact absurd h (by simp)
/-- both readings from token t on -/
def clP (T V : Nat → Nat) (l t : Nat) : Prop := ∀ (st : List Nat) (w : Nat) (a : List tOp), cntS st ≤ 5 → topLt (if l = 3 then 4 else l) st → (w = 2 ∨ (w = 1 ∧ 4 ≤ l)) → (4 ≤ l → w = 2 → T t ≠ 132) → ∃ f r, rd T V f l (cntS st) t a = some r ∧ (r.1 = true → (T t ≠ 0 ∧ t < r.2.1) ∧ ∃ ro out, (∀ x, x ∈ ro → l ≤ rkS x) ∧ r.2.2 = out ++ ro.map opS ∧ (∀ g, ms T V (g + (r.2.1 - t)) t st w a = ms T V g r.2.1 (ro ++ st) 0 out) ∧ fol l ro (T r.2.1)) ∧ (r.1 = false → t ≤ r.2.1 ∧ ∀ g, ms T V (g + (r.2.1 - t) + 1) t st w a = some (false, r.2.1, []))
def clQ (T V : Nat → Nat) (l t : Nat) : Prop := ∀ (st ro : List Nat) (out : List tOp), cntS st ≤ 5 → topLt l st → (∀ x, x ∈ ro → (if l = 4 then 5 else l) ≤ rkS x) → fol (l + 1) ro (T t) → ∃ f r, rd T V f (10 + l) (cntS st) t (out ++ ro.map opS) = some r ∧ (r.1 = true → t ≤ r.2.1 ∧ ∃ ro' out', (∀ x, x ∈ ro' → l ≤ rkS x) ∧ r.2.2 = out' ++ ro'.map opS ∧ (∀ g, ms T V (g + (r.2.1 - t)) t (ro ++ st) 0 out = ms T V g r.2.1 (ro' ++ st) 0 out') ∧ fol l ro' (T r.2.1)) ∧ (r.1 = false → t ≤ r.2.1 ∧ ∀ g, ms T V (g + (r.2.1 - t) + 1) t (ro ++ st) 0 out = some (false, r.2.1, []))
def clO (T V : Nat → Nat) (t : Nat) : Prop := ∀ (k : Nat) (st : List Nat) (w : Nat) (a : List tOp), cntS (List.replicate k 19 ++ st) ≤ 5 → topLt 7 st → (w = 2 ∨ w = 1) → (w = 2 → T t ≠ 132) → ∃ f r, rd T V f 7 (cntS (List.replicate k 19 ++ st)) t a = some r ∧ (r.1 = true → (T t ≠ 0 ∧ t < r.2.1) ∧ ∀ g, ms T V (g + (r.2.1 - t)) t (List.replicate k 19 ++ st) w a = ms T V g r.2.1 st 0 (r.2.2 ++ List.replicate k oNeg)) ∧ (r.1 = false → t ≤ r.2.1 ∧ ∀ g, ms T V (g + (r.2.1 - t) + 1) t (List.replicate k 19 ++ st) w a = some (false, r.2.1, []))
theorem unw_rep {st : List Nat} (h : topLt 7 st) (k : Nat) (a : List tOp) : unw 7 (List.replicate k 19 ++ st) a = (st, a ++ List.replicate k oNeg) := by
  rw [unw_app h _ _ (fun x hx => by rw [List.eq_of_mem_replicate hx]; decide), List.map_replicate]
  rfl
