/-! text: tokens of bytes -/
def isBl (c : Nat) : Bool := c == 32 || c == 10
def isLt (c : Nat) : Bool := decide (97 ≤ c ∧ c ≤ 122)
def isDg (c : Nat) : Bool := decide (48 ≤ c ∧ c ≤ 57)
/-- past all that are so -/
def runB (p : Nat → Bool) (b : Nat → Nat) : Nat → Nat → Nat
  | 0, i => i
  | j + 1, i => if p (b i) = true then runB p b j (i + 1) else i
def skF (b : Nat → Nat) (sz i : Nat) : Nat := runB isBl b (sz - i) i
def endF (b : Nat → Nat) (sz fr : Nat) : Nat := if isLt (b fr) = true then runB isLt b (sz - (fr + 1)) (fr + 1) else if isDg (b fr) = true then runB isDg b (sz - (fr + 1)) (fr + 1) else fr + 1
def wsF (b : Nat → Nat) (fr to : Nat) : List Nat := (List.range (to - fr)).map (fun k => b (fr + k))
def wds : List (List Nat) := [[116, 97, 107, 101], [99, 97, 108, 108], [111, 114], [97, 110, 100], [110, 111, 116], [108, 97, 116, 101], [102, 97, 114], [107, 105, 110, 100], [110, 111, 105, 115, 101], [100, 114, 105, 102, 116], [100, 101, 112, 116, 104]]
def wix (ws : List Nat) : List (List Nat) → Nat → Nat
  | [], _ => 2
  | x :: xs, k => if ws = x then k else wix ws xs (k + 1)
def numF (b : Nat → Nat) : Nat → Nat → Nat → Nat
  | 0, _, a => a
  | j + 1, i, a => numF b j (i + 1) (10 * a + (b i - 48))
def sgC (c : Nat) : Nat := if c = 40 ∨ c = 41 ∨ c = 59 ∨ c = 43 ∨ c = 45 ∨ c = 42 ∨ c = 60 ∨ c = 61 then c else 2
def tokF (b : Nat → Nat) (fr to : Nat) : Nat := if isLt (b fr) = true then wix (wsF b fr to) wds 128 else if isDg (b fr) = true then (if to - fr ≤ 4 then 1 else 2) else sgC (b fr)
def valF (b : Nat → Nat) (fr to : Nat) : Nat := if isDg (b fr) = true ∧ to - fr ≤ 4 then numF b (to - fr) fr 0 else 0
def psF (b : Nat → Nat) (sz : Nat) : Nat → Nat
  | 0 => 0
  | k + 1 => if skF b sz (psF b sz k) < sz then endF b sz (skF b sz (psF b sz k)) else skF b sz (psF b sz k)
def stF (b : Nat → Nat) (sz k : Nat) : Nat := skF b sz (psF b sz k)
def tkF (b : Nat → Nat) (sz k : Nat) : Nat := if stF b sz k < sz then tokF b (stF b sz k) (endF b sz (stF b sz k)) else 0
def vlF (b : Nat → Nat) (sz k : Nat) : Nat := if stF b sz k < sz then valF b (stF b sz k) (endF b sz (stF b sz k)) else 0
theorem runB_le (p : Nat → Bool) (b : Nat → Nat) : ∀ j i, i ≤ runB p b j i ∧ runB p b j i ≤ i + j := by
  intro j
  induction j with
  | zero => intro i; exact ⟨Nat.le_refl _, Nat.le_refl _⟩
  | succ j ih =>
    intro i
    rw [runB]
    split
    · have := ih (i + 1); omega
    · omega
theorem skF_le {b : Nat → Nat} {sz i : Nat} (h : i ≤ sz) : i ≤ skF b sz i ∧ skF b sz i ≤ sz := by
  have := runB_le isBl b (sz - i) i
  unfold skF
  omega
theorem endF_le {b : Nat → Nat} {sz fr : Nat} (h : fr < sz) : fr + 1 ≤ endF b sz fr ∧ endF b sz fr ≤ sz := by
  unfold endF
  split
  · have := runB_le isLt b (sz - (fr + 1)) (fr + 1); omega
  · split
    · have := runB_le isDg b (sz - (fr + 1)) (fr + 1); omega
    · omega
theorem ps_le {b : Nat → Nat} {sz : Nat} : ∀ k, psF b sz k ≤ sz := by
  intro k
  induction k with
  | zero => exact Nat.zero_le _
  | succ k ih =>
    have s := skF_le (b := b) ih
    rw [psF]
    split
    · rename_i h; exact (endF_le h).2
    · exact s.2
theorem st_le {b : Nat → Nat} {sz : Nat} (k : Nat) : stF b sz k ≤ sz := (skF_le (ps_le k)).2
/-- once at the end, always -/
theorem st_end {b : Nat → Nat} {sz k : Nat} (h : ¬ stF b sz k < sz) : ¬ stF b sz (k + 1) < sz := by
  have l := st_le (b := b) (sz := sz) k
  unfold stF at h l ⊢
  rw [psF, if_neg h]
  have e : skF b sz (psF b sz k) = sz := by omega
  rw [e]
  have := skF_le (b := b) (Nat.le_refl sz)
  omega
theorem st_end2 {b : Nat → Nat} {sz k : Nat} (h : ¬ stF b sz k < sz) : ∀ j, ¬ stF b sz (k + j) < sz := by
  intro j
  induction j with
  | zero => exact h
  | succ j ih => exact st_end ih
theorem ps_ge {b : Nat → Nat} {sz : Nat} : ∀ k, (∀ j, j < k → stF b sz j < sz) → k ≤ psF b sz k := by
  intro k
  induction k with
  | zero => intro _; exact Nat.zero_le _
  | succ k ih =>
    intro h
    have hk := h k (by omega)
    have i1 := ih (fun j hj => h j (by omega))
    have s := (skF_le (b := b) (ps_le (b := b) (sz := sz) k)).1
    have e := (endF_le (b := b) hk).1
    unfold stF at hk e
    rw [psF, if_pos hk]
    omega
/-- how many tokens there are -/
theorem many_ex {b : Nat → Nat} {sz : Nat} : ∃ N, N ≤ sz ∧ (∀ k, k < N → stF b sz k < sz) ∧ ¬ stF b sz N < sz := by
  have go : ∀ n, (∃ N, N ≤ sz ∧ (∀ k, k < N → stF b sz k < sz) ∧ ¬ stF b sz N < sz) ∨ ∀ k, k < n → stF b sz k < sz := by
    intro n
    induction n with
    | zero => exact Or.inr (fun k hk => absurd hk (by omega))
    | succ n ih =>
      rcases ih with h | h
      · exact Or.inl h
      · by_cases c : stF b sz n < sz
        · exact Or.inr (fun k hk => by
            by_cases z : k = n
            · rw [z]; exact c
            · exact h k (by omega))
        · refine Or.inl ⟨n, ?_, h, c⟩
          have := ps_ge n h
          have := ps_le (b := b) (sz := sz) n
          omega
  rcases go (sz + 1) with h | h
  · exact h
  · have := ps_ge (sz + 1) h
    have := ps_le (b := b) (sz := sz) (sz + 1)
    omega
theorem wix_ok (ws : List Nat) : ∀ (l : List (List Nat)) k, wix ws l k = 2 ∨ (k ≤ wix ws l k ∧ wix ws l k < k + l.length) := by
  intro l
  induction l with
  | nil => intro k; exact Or.inl rfl
  | cons x xs ih =>
    intro k
    rw [wix]
    split
    · exact Or.inr ⟨Nat.le_refl _, by rw [List.length_cons]; omega⟩
    · rcases ih (k + 1) with h | h
      · exact Or.inl h
      · exact Or.inr ⟨by omega, by rw [List.length_cons]; omega⟩
theorem numF_le {b : Nat → Nat} : ∀ j i a, (∀ k, i ≤ k → k < i + j → b k ≤ 57) → numF b j i a + 1 ≤ (a + 1) * 10 ^ j := by
  intro j
  induction j with
  | zero => intro i a _; rw [numF]; omega
  | succ j ih =>
    intro i a h
    rw [numF]
    have h1 := ih (i + 1) (10 * a + (b i - 48)) (fun k q1 q2 => h k (by omega) (by omega))
    have h2 := h i (by omega) (by omega)
    have : 10 * a + (b i - 48) + 1 ≤ 10 * (a + 1) := by omega
    have h3 := Nat.mul_le_mul_right (10 ^ j) this
    rw [Nat.pow_succ]
    have e : 10 * (a + 1) * 10 ^ j = (a + 1) * (10 ^ j * 10) := by
      rw [Nat.mul_comm 10 (a + 1), Nat.mul_assoc, Nat.mul_comm 10 (10 ^ j)]
    omega
theorem runB_all (p : Nat → Bool) (b : Nat → Nat) : ∀ j i k, i ≤ k → k < runB p b j i → p (b k) = true := by
  intro j
  induction j with
  | zero => intro i k h1 h2; rw [runB] at h2; omega
  | succ j ih =>
    intro i k h1 h2
    rw [runB] at h2
    split at h2
    · rename_i h
      by_cases z : k = i
      · rw [z]; exact h
      · exact ih (i + 1) k (by omega) h2
    · omega
theorem dg_all {b : Nat → Nat} {sz fr : Nat} (h : isDg (b fr) = true) : ∀ k, fr ≤ k → k < endF b sz fr → isDg (b k) = true := by
  intro k h1 h2
  by_cases z : k = fr
  · rw [z]; exact h
  · have nl : ¬ isLt (b fr) = true := by
      unfold isLt isDg at *
      simp at h ⊢
      omega
    unfold endF at h2
    rw [if_neg nl, if_pos h] at h2
    exact runB_all isDg b _ _ k (by omega) h2
theorem val_ok {b : Nat → Nat} {sz k : Nat} : vlF b sz k ≤ 9999 := by
  unfold vlF valF
  split
  · split
    · rename_i h
      have := numF_le (b := b) (endF b sz (stF b sz k) - stF b sz k) (stF b sz k) 0 (fun q h1 h2 => by
        have := dg_all (sz := sz) h.1 q h1 (by omega)
        unfold isDg at this
        simp at this
        omega)
      have p : 10 ^ (endF b sz (stF b sz k) - stF b sz k) ≤ 10 ^ 4 := Nat.pow_le_pow_right (by decide) h.2
      have : (10 : Nat) ^ 4 = 10000 := by decide
      omega
    · omega
  · omega
/-- letters, packed -/
def pkL : List Nat → Nat → Nat
  | [], w => w
  | c :: cs, w => pkL cs (w * 256 + c)
theorem pkL_app : ∀ (a b : List Nat) w, pkL (a ++ b) w = pkL b (pkL a w) := by
  intro a
  induction a with
  | nil => intro b w; rfl
  | cons c cs ih => intro b w; exact ih b _
theorem pk_inj : ∀ (n : Nat) (a b : List Nat), a.length + b.length ≤ n → (∀ c, c ∈ a → 1 ≤ c ∧ c < 256) → (∀ c, c ∈ b → 1 ≤ c ∧ c < 256) → pkL a 0 = pkL b 0 → a = b := by
  intro n
  induction n with
  | zero =>
    intro a b h _ _ _
    rw [List.eq_nil_of_length_eq_zero (by omega : a.length = 0), List.eq_nil_of_length_eq_zero (by omega : b.length = 0)]
  | succ n ih =>
    intro a b h ha hb e
    rcases List.eq_nil_or_concat a with rfl | ⟨a', x, rfl⟩
    · rcases List.eq_nil_or_concat b with rfl | ⟨b', y, rfl⟩
      · rfl
      · rw [List.concat_eq_append, pkL_app] at e
        have := hb y (by simp)
        simp only [pkL] at e
        omega
    · rcases List.eq_nil_or_concat b with rfl | ⟨b', y, rfl⟩
      · rw [List.concat_eq_append, pkL_app] at e
        have := ha x (by simp)
        simp only [pkL] at e
        omega
      · rw [List.concat_eq_append, List.concat_eq_append] at *
        rw [pkL_app, pkL_app] at e
        have h1 := ha x (by simp)
        have h2 := hb y (by simp)
        simp only [pkL] at e
        have e1 : x = y := by omega
        have e2 : pkL a' 0 = pkL b' 0 := by omega
        rw [List.length_append, List.length_append] at h
        have l1 : [x].length = 1 := rfl
        have l2 : [y].length = 1 := rfl
        rw [ih a' b' (by omega) (fun c hc => ha c (List.mem_append_left _ hc)) (fun c hc => hb c (List.mem_append_left _ hc)) e2, e1]
theorem pkL_lt : ∀ (a : List Nat) (w : Nat), (∀ c, c ∈ a → c < 256) → pkL a w + 1 ≤ (w + 1) * 256 ^ a.length := by
  intro a
  induction a with
  | nil => intro w _; simp [pkL]
  | cons c cs ih =>
    intro w h
    have h1 := ih (w * 256 + c) (fun x hx => h x (List.mem_cons_of_mem _ hx))
    have h2 := h c (List.mem_cons_self)
    rw [pkL, List.length_cons, Nat.pow_succ]
    have : w * 256 + c + 1 ≤ (w + 1) * 256 := by omega
    have h3 := Nat.mul_le_mul_right (256 ^ cs.length) this
    have e : (w + 1) * 256 * 256 ^ cs.length = (w + 1) * (256 ^ cs.length * 256) := by
      rw [Nat.mul_assoc, Nat.mul_comm 256 (256 ^ cs.length)]
    omega
theorem tk_ok {b : Nat → Nat} {sz k : Nat} : tkB (tkF b sz k) = true := by
  unfold tkF tokF
  split
  · split
    · rcases wix_ok (wsF b (stF b sz k) (endF b sz (stF b sz k))) wds 128 with h | ⟨h1, h2⟩
      · rw [h]; decide
      · have l : wds.length = 11 := rfl
        unfold tkB
        rw [Bool.or_eq_true]
        right
        simp
        omega
    · split
      · split <;> decide
      · unfold sgC
        split
        · rename_i h
          rcases h with h | h | h | h | h | h | h | h <;> (rw [h]; decide)
        · decide
  · decide
