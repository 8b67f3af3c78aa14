/-! the model's ints as they may be; the class's cells as they tell of them -/
abbrev cl (x : Int32) : Nat := x.toNatClampNeg
def isN (x : Int32) (b : Nat) : Prop := x = nI (cl x) ∧ cl x ≤ b
theorem isN_of {a b : Nat} (h : a ≤ b) (hb : b < 2147483648) : isN (nI a) b := ⟨by rw [cl, nI_clamp (by omega)], by rw [cl, nI_clamp (by omega)]; exact h⟩
theorem isN.ex {x : Int32} {b : Nat} (h : isN x b) : ∃ a, a ≤ b ∧ x = nI a := ⟨_, h.2, h.1⟩
abbrev am_M : Type := Nat → Nat → Int32
def yY (m : am_M) : Nat := cl (m 56 0)
def yN (m : am_M) : Nat := cl (m 56 1)
def yD (m : am_M) : Nat := cl (m 56 4)
def yS (m : am_M) : Nat := cl (m 56 8)
def yC (m : am_M) : Nat := cl (m 56 12)
def yB (m : am_M) : Nat := cl (m 56 22)
def yT (m : am_M) : Nat := cl (m 56 25)
def yDr (m : am_M) (c : Nat) : Nat := cl (m 66 c)
def ySh (m : am_M) (c : Nat) : Nat := cl (m 67 c)
/-- what a text is made of: a number, a name, a sign of one, a sign of two -/
abbrev tOp : Type := Nat ⊕ Nat ⊕ Bool ⊕ Nat
def encC : tOp → Int32
  | .inl v => nI v
  | .inr (.inl x) => -nI (133 + x)
  | .inr (.inr (.inl true)) => -132
  | .inr (.inr (.inl false)) => -3
  | .inr (.inr (.inr 0)) => -130
  | .inr (.inr (.inr 1)) => -131
  | .inr (.inr (.inr 2)) => -60
  | .inr (.inr (.inr 3)) => -61
  | .inr (.inr (.inr 4)) => -43
  | .inr (.inr (.inr 5)) => -45
  | .inr (.inr (.inr _)) => -42
def encM : tOp → Int32
  | .inl v => nI (100000 + v)
  | .inr (.inl x) => nI x
  | .inr (.inr (.inl true)) => 13
  | .inr (.inr (.inl false)) => 19
  | .inr (.inr (.inr 0)) => 11
  | .inr (.inr (.inr 1)) => 12
  | .inr (.inr (.inr 2)) => 14
  | .inr (.inr (.inr 3)) => 15
  | .inr (.inr (.inr 4)) => 16
  | .inr (.inr (.inr 5)) => 17
  | .inr (.inr (.inr _)) => 18
def okOp : tOp → Prop
  | .inl v => v ≤ 9999
  | .inr (.inl x) => x < 6
  | .inr (.inr (.inl _)) => True
  | .inr (.inr (.inr b)) => b < 7
/-- how many stand there after it, n before -/
def depO (n : Nat) : tOp → Option Nat
  | .inl _ => some (n + 1)
  | .inr (.inl _) => some (n + 1)
  | .inr (.inr (.inl _)) => if 1 ≤ n then some n else none
  | .inr (.inr (.inr _)) => if 2 ≤ n then some (n - 1) else none
def depL : List tOp → Nat → Option Nat
  | [], n => some n
  | o :: os, n => (depO n o).bind (depL os)
/-- the model's ints -/
def InvB (m : am_M) : Prop := isN (m 56 0) 999 ∧ isN (m 56 1) 5 ∧ ballOk (m 57) (m 58) (fun k => m 58 (5 + k)) (yN m)
def InvD (m : am_M) : Prop := isN (m 56 4) 8 ∧ ∀ k, k < yD m → isN (m 59 k) 359 ∧ -99 ≤ m 60 k ∧ m 60 k ≤ 99
def InvS (m : am_M) : Prop := isN (m 56 8) 6 ∧ ∀ k, k < yS m → isN (m 62 k) 359 ∧ isN (m 63 k) 99 ∧ isN (m 64 k) 9999999
def InvC (m : am_M) : Prop := isN (m 56 12) 40 ∧ (∀ k, k < yC m → isN (m 65 k) 5 ∧ (m 66 k = nI (yDr m k) ∧ yDr m k < yD m) ∧ (m 67 k = nI (ySh m k) ∧ ySh m k < yS m) ∧ isN (m 68 k) 9999999 ∧ isN (m 69 k) 999 ∧ (m 71 k = -1 ∨ isN (m 71 k) 999 ∧ isN (m 70 k) 9999999) ∧ (m 72 k = 0 ∨ m 72 k = 1)) ∧ ∀ k, yC m ≤ k → k < 40 → m 71 k = -1 ∧ m 72 k = 0
def InvT (m : am_M) : Prop := (isN (m 56 22) 160 ∧ ∀ k, k < yB m → isN (m 73 k) 255) ∧ (isN (m 56 25) 6 ∧ 1 ≤ yT m) ∧ m 56 26 = nI (cl (m 56 26)) ∧ cl (m 56 26) < yT m
def InvI (m : am_M) : Prop := m 56 31 = 0 ∨ m 56 31 = 1 ∧ (isN (m 56 32) 5 ∧ cl (m 56 32) ≤ yN m) ∧ (isN (m 56 33) 8 ∧ cl (m 56 33) ≤ yD m) ∧ (isN (m 56 34) 6 ∧ cl (m 56 34) ≤ yS m) ∧ (isN (m 56 35) 40 ∧ cl (m 56 35) ≤ yC m) ∧ (∀ k, k < cl (m 56 32) → (∃ b, m 76 k = nI b ∧ 1 ≤ b ∧ b ≤ 99) ∧ ∃ c, m 76 (5 + k) = nI c ∧ c ≤ 99) ∧ (∀ k, k < cl (m 56 33) → -99 ≤ m 77 k ∧ m 77 k ≤ 99) ∧ (∀ k, k < cl (m 56 34) → isN (m 78 k) 359 ∧ isN (m 79 k) 99 ∧ isN (m 80 k) 9999999) ∧ ∀ k, k < cl (m 56 35) → m 81 k = 0 ∨ m 81 k = 1
def InvH (m : am_M) : Prop := ∀ s, s < 4 → (m 82 s = -1 ∨ m 82 s = 0 ∨ m 82 s = 1 ∨ m 82 s = 2) ∧ isN (m 83 s) 40 ∧ (m 82 s = -1 → m 83 s = 0)
def Inv (m : am_M) : Prop := InvB m ∧ InvD m ∧ InvS m ∧ InvC m ∧ InvT m ∧ InvI m ∧ InvH m
/-- the class's cells -/
def CrB (m : am_M) (h : am_H) : Prop := hI h 1 7 = m 56 0 ∧ hI h 2 2 = m 56 1 ∧ ∀ k, k < 5 → hI h 3 k = m 57 k ∧ hI h 5 k = m 58 k ∧ hI h 6 k = m 58 (5 + k)
def drumAt_ (m : am_M) (h : am_H) (k n : Nat) : Prop := hR h 7 k = some n ∧ hkd h n = 8 ∧ 88 < n ∧ n ≤ hk h ∧ hI h n 0 = nI k ∧ hI h n 1 = m 59 k ∧ hI h n 2 = m 61 k ∧ hI h n 3 = m 60 k
def CrD (m : am_M) (h : am_H) : Prop := hI h 1 4 = m 56 4 ∧ ∀ k, k < yD m → ∃ n, drumAt_ m h k n
def shakeAt_ (m : am_M) (h : am_H) (k n : Nat) : Prop := hR h 8 k = some n ∧ hkd h n = 9 ∧ 88 < n ∧ n ≤ hk h ∧ hI h n 0 = nI k ∧ hI h n 1 = m 62 k ∧ hI h n 2 = m 63 k ∧ hI h n 3 = m 64 k
def CrS (m : am_M) (h : am_H) : Prop := hI h 1 5 = m 56 8 ∧ ∀ k, k < yS m → ∃ n, shakeAt_ m h k n
def cardAt_ (m : am_M) (h : am_H) (k n : Nat) : Prop := hR h 9 k = some n ∧ hkd h n = 10 ∧ 88 < n ∧ n ≤ hk h ∧ hI h n 0 = m 65 k ∧ hI h n 1 = m 68 k ∧ hI h n 2 = m 69 k ∧ hR h n 3 = hR h 7 (yDr m k) ∧ hR h n 4 = hR h 8 (ySh m k) ∧ hI h n 5 = bI (m 71 k ≠ -1) ∧ hI h n 6 = m 72 k ∧ (m 71 k ≠ -1 → hI h n 7 = m 70 k ∧ hI h n 8 = m 71 k)
def CrC (m : am_M) (h : am_H) : Prop := hI h 1 6 = m 56 12 ∧ (∀ k, k < yC m → ∃ n, cardAt_ m h k n) ∧ ∀ j k, j < yC m → k < yC m → hR h 9 j = hR h 9 k → j = k
def textAt_ (m : am_M) (h : am_H) (t n : Nat) (A B : List tOp) : Prop := hR h 17 t = some n ∧ hkd h n = 7 ∧ (n = 53 ∨ 88 < n) ∧ n + 2 ≤ hk h ∧ hR h n 0 = some (n + 1) ∧ hR h n 1 = some (n + 2) ∧ hkd h (n + 1) = 100 ∧ hkd h (n + 2) = 100 ∧ hln h (n + 1) = (A ++ B).length ∧ hln h (n + 2) = (A ++ B).length ∧ (A ++ B).length ≤ 160 ∧ hI h n 2 = nI A.length ∧ m 75 (4 * t) = 0 ∧ m 75 (4 * t + 1) = nI A.length ∧ m 75 (4 * t + 2) = nI (A ++ B).length ∧ (∀ o ∈ A ++ B, okOp o) ∧ (∀ k o, (A ++ B)[k]? = some o → hI h (n + 1) k = encC o ∧ m 74 (200 * t + k) = encM o) ∧ depL A 0 = some 1 ∧ depL B 0 = some 1
def CrT (m : am_M) (h : am_H) : Prop := (hI h 11 1 = m 56 22 ∧ ∀ k, k < yB m → hI h 12 k = m 73 k) ∧ hI h 1 11 = m 56 25 ∧ hI h 1 12 = m 56 26 ∧ ∀ t, t < yT m → ∃ n A B, textAt_ m h t n A B
def CrI (m : am_M) (h : am_H) : Prop := hI h 35 0 = m 56 31 ∧ (m 56 31 = 1 → hI h 35 1 = m 56 32 ∧ hI h 35 2 = m 56 33 ∧ hI h 35 3 = m 56 34 ∧ hI h 35 4 = m 56 35 ∧ (∀ k, k < cl (m 56 32) → hI h 37 k = m 76 k ∧ hI h 38 k = m 76 (5 + k)) ∧ (∀ k, k < cl (m 56 33) → hI h 39 k = m 77 k) ∧ (∀ k, k < cl (m 56 34) → hI h 40 k = m 78 k ∧ hI h 41 k = m 79 k ∧ hI h 42 k = m 80 k) ∧ ∀ k, k < cl (m 56 35) → hI h 43 k = m 81 k)
def CrH (m : am_M) (h : am_H) : Prop := ∀ s, s < 4 → hI h (45 + 2 * s) 1 = m 82 s ∧ hI h (45 + 2 * s) 2 = m 83 s ∧ (m 82 s ≠ -1 → ∀ k, k < cl (m 83 s) → hI h (46 + 2 * s) k = m 84 (40 * s + k))
def CrW (m : am_M) (h : am_H) : Prop := hI h 33 0 = m 56 27 ∧ hI h 33 1 = m 56 28 ∧ hI h 33 2 = m 56 29 ∧ hI h 1 17 = m 56 30
def CR (m : am_M) (h : am_H) : Prop := CrB m h ∧ CrD m h ∧ CrS m h ∧ CrC m h ∧ CrT m h ∧ CrI m h ∧ CrH m h ∧ CrW m h
/-- cells of the class that no call finds again as they were left -/
def scrC (n : Nat) : Bool := n == 10 || n == 13 || n == 14 || n == 15 || n == 16 || n == 18 || (19 ≤ n && n ≤ 32) || n == 34
/-- nothing of the class has changed but such cells, and the stacks of texts -/
def Kp (h h' : am_H) : Prop := h'.1 = h.1 ∧ hkd h' = hkd h ∧ hln h' = hln h ∧ hR h' = hR h ∧ (∀ n, n ≠ 19 → hL h' n = hL h n) ∧ hI h' 1 = hI h 1 ∧ ∀ n j, scrC n = false → (hkd h n = 7 → j ≠ 3) → (∀ q t, q < cl (hI h 1 11) → hR h 17 q = some t → n ≠ t + 2) → hI h' n j = hI h n j
def scrM (n j : Nat) : Bool := (86 ≤ n && n ≤ 88) || (n == 56 && 44 ≤ j)
/-- nothing has changed but what the model doesn't find again -/
def Km (h h' : am_H) : Prop := h'.1 = h.1 ∧ hkd h' = hkd h ∧ hln h' = hln h ∧ hR h' = hR h ∧ hL h' = hL h ∧ ∀ n j, scrM n j = false → hI h' n j = hI h n j
theorem Kp.rf {h : am_H} : Kp h h := ⟨rfl, rfl, rfl, rfl, fun _ _ => rfl, rfl, fun _ _ _ _ _ => rfl⟩
theorem Km.rf {h : am_H} : Km h h := ⟨rfl, rfl, rfl, rfl, rfl, fun _ _ _ => rfl⟩
theorem Kp.tr {h h' h'' : am_H} (a : Kp h h') (b : Kp h' h'') : Kp h h'' := ⟨b.1.trans a.1, b.2.1.trans a.2.1, b.2.2.1.trans a.2.2.1, b.2.2.2.1.trans a.2.2.2.1, fun n q => (b.2.2.2.2.1 n q).trans (a.2.2.2.2.1 n q), b.2.2.2.2.2.1.trans a.2.2.2.2.2.1, fun n j q1 q2 q3 => (b.2.2.2.2.2.2 n j q1 (by rw [a.2.1]; exact q2) (by rw [a.2.2.2.1, a.2.2.2.2.2.1]; exact q3)).trans (a.2.2.2.2.2.2 n j q1 q2 q3)⟩
theorem Km.tr {h h' h'' : am_H} (a : Km h h') (b : Km h' h'') : Km h h'' := ⟨b.1.trans a.1, b.2.1.trans a.2.1, b.2.2.1.trans a.2.2.1, b.2.2.2.1.trans a.2.2.2.1, b.2.2.2.2.1.trans a.2.2.2.2.1, fun n j q => (b.2.2.2.2.2 n j q).trans (a.2.2.2.2.2 n j q)⟩
theorem Kp.sh {h h' : am_H} (a : Kp h h') (S : Sh h) : Sh h' := ⟨by rw [hk, a.1]; exact S.1, fun n q => by rw [a.2.1, a.2.2.1]; exact S.2.1 n q, fun n f q => by rw [a.2.2.2.1]; exact S.2.2 n f q⟩
theorem Kp.sm {h h' : am_H} (a : Kp h h') (S : Sm h) : Sm h' := ⟨by rw [hk, a.1]; exact S.1, fun n q => by rw [a.2.1, a.2.2.1]; exact S.2.1 n q, fun n f q => by rw [a.2.2.2.1]; exact S.2.2 n f q⟩
theorem Km.sh {h h' : am_H} (a : Km h h') (S : Sh h) : Sh h' := ⟨by rw [hk, a.1]; exact S.1, fun n q => by rw [a.2.1, a.2.2.1]; exact S.2.1 n q, fun n f q => by rw [a.2.2.2.1]; exact S.2.2 n f q⟩
theorem Km.sm {h h' : am_H} (a : Km h h') (S : Sm h) : Sm h' := ⟨by rw [hk, a.1]; exact S.1, fun n q => by rw [a.2.1, a.2.2.1]; exact S.2.1 n q, fun n f q => by rw [a.2.2.2.1]; exact S.2.2 n f q⟩
