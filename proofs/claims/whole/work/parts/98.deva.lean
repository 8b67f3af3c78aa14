/-! a heap by what was done to it -/
abbrev Ew : Type := (Nat × Nat × Nat) ⊕ (Nat × Nat) ⊕ (Nat × Nat × Nat) ⊕ (Nat × Nat × Int32) ⊕ (Nat × Nat × Int64)
abbrev eN (a b c : Nat) : Ew := .inl (a, b, c)
abbrev eG (a b : Nat) : Ew := .inr (.inl (a, b))
abbrev eR (n j v : Nat) : Ew := .inr (.inr (.inl (n, j, v)))
abbrev eI (n j : Nat) (v : Int32) : Ew := .inr (.inr (.inr (.inl (n, j, v))))
abbrev eJ (n j : Nat) (v : Int64) : Ew := .inr (.inr (.inr (.inr (n, j, v))))
def ap1 (e : Ew) (h : am_H) : am_H := match e with
  | .inl (a, b, c) => newc h a b c
  | .inr (.inl (a, b)) => newg h a b
  | .inr (.inr (.inl (n, j, v))) => setR h n j (some v)
  | .inr (.inr (.inr (.inl (n, j, v)))) => setI h n j v
  | .inr (.inr (.inr (.inr (n, j, v)))) => setL h n j v
def ap : List Ew → am_H → am_H
  | [], h => h
  | e :: es, h => ap1 e (ap es h)
/-- alike, but for the scrip -/
def Sa (h h' : am_H) : Prop := h.1 = h'.1 ∧ hkd h = hkd h' ∧ hR h = hR h' ∧ hL h = hL h' ∧ ∀ n, n ≠ 0 → hln h n = hln h' n ∧ hI h n = hI h' n
theorem sa_1 {h h' : am_H} (e : Ew) (S : Sa h h') : Sa (ap1 e h) (ap1 e h') := by
  obtain ⟨s1, s2, s3, s4, s5⟩ := S
  have ek : hk h = hk h' := by unfold hk; rw [s1]
  have es : hs h = hs h' := by unfold hs; rw [s1]
  rcases e with ⟨a, b, c⟩ | ⟨a, b⟩ | ⟨a, b, c⟩ | ⟨a, b, c⟩ | ⟨a, b, c⟩
  · refine ⟨?_, ?_, ?_, ?_, fun n q => ⟨?_, ?_⟩⟩
    · show (hk h + 1, hs h + c) = (hk h' + 1, hs h' + c); rw [ek, es]
    · show (fun n => if n = hk h + 1 then a else hkd h n) = (fun n => if n = hk h' + 1 then a else hkd h' n); rw [ek, s2]
    · show (fun n j => if n = hk h + 1 then none else hR h n j) = (fun n j => if n = hk h' + 1 then none else hR h' n j); rw [ek, s3]
    · show (fun n j => if n = hk h + 1 then 0 else hL h n j) = (fun n j => if n = hk h' + 1 then 0 else hL h' n j); rw [ek, s4]
    · show (if n = hk h + 1 then b else hln h n) = (if n = hk h' + 1 then b else hln h' n); rw [ek, (s5 n q).1]
    · show (fun j => if n = hk h + 1 then 0 else hI h n j) = (fun j => if n = hk h' + 1 then 0 else hI h' n j); rw [ek, (s5 n q).2]
  · refine ⟨?_, ?_, ?_, ?_, fun n q => ⟨?_, ?_⟩⟩
    · show (hk h + 1 + a, hs h + a + a * b) = (hk h' + 1 + a, hs h' + a + a * b); rw [ek, es]
    · unfold ap1 newg hkd at *; simp only [ek]; rw [s2]
    · unfold ap1 newg hR at *; simp only [ek]; rw [s3]
    · unfold ap1 newg hL at *; simp only [ek]; rw [s4]
    · have := (s5 n q).1; unfold ap1 newg hln at *; simp only [ek]; rw [this]
    · have := (s5 n q).2; unfold ap1 newg hI at *; simp only [ek]; rw [this]
  · refine ⟨?_, ?_, ?_, ?_, fun n q => ⟨?_, ?_⟩⟩
    · show (hk h, hs h) = (hk h', hs h'); rw [ek, es]
    · exact s2
    · show (fun x j => if x = a ∧ j = b then some c else hR h x j) = (fun x j => if x = a ∧ j = b then some c else hR h' x j); rw [s3]
    · exact s4
    · exact (s5 n q).1
    · exact (s5 n q).2
  · refine ⟨?_, ?_, ?_, ?_, fun n q => ⟨?_, ?_⟩⟩
    · show (hk h, hs h) = (hk h', hs h'); rw [ek, es]
    · exact s2
    · exact s3
    · exact s4
    · exact (s5 n q).1
    · show (fun j => if n = a ∧ j = b then c else hI h n j) = (fun j => if n = a ∧ j = b then c else hI h' n j); rw [(s5 n q).2]
  · refine ⟨?_, ?_, ?_, ?_, fun n q => ⟨?_, ?_⟩⟩
    · show (hk h, hs h) = (hk h', hs h'); rw [ek, es]
    · exact s2
    · exact s3
    · show (fun x j => if x = a ∧ j = b then c else hL h x j) = (fun x j => if x = a ∧ j = b then c else hL h' x j); rw [s4]
    · exact (s5 n q).1
    · exact (s5 n q).2
theorem sa_ap {h h' : am_H} (S : Sa h h') : ∀ es, Sa (ap es h) (ap es h') := by
  intro es
  induction es with
  | nil => exact S
  | cons e es ih => exact sa_1 e ih
def h00 : am_H := am_h0 0 (fun _ => 0)
theorem sa_0 {L : Nat} {xs : Nat → Int32} : Sa (am_h0 L xs) h00 := ⟨rfl, rfl, rfl, rfl, fun n q => ⟨by
  show (if n = 0 then L else _) = (if n = 0 then 0 else _)
  rw [if_neg q, if_neg q], funext fun j => by
  show (if n = 0 then xs j else _) = (if n = 0 then 0 else _)
  rw [if_neg q, if_neg q]⟩⟩
section APX
variable {L : Nat} {xs : Nat → Int32} {es : List Ew}
theorem ap_hk : hk (ap es (am_h0 L xs)) = hk (ap es h00) := by unfold hk; rw [(sa_ap sa_0 es).1]
theorem ap_hs : hs (ap es (am_h0 L xs)) = hs (ap es h00) := by unfold hs; rw [(sa_ap sa_0 es).1]
theorem ap_kd {n : Nat} : hkd (ap es (am_h0 L xs)) n = hkd (ap es h00) n := by rw [(sa_ap sa_0 es).2.1]
theorem ap_R {n j : Nat} : hR (ap es (am_h0 L xs)) n j = hR (ap es h00) n j := by rw [(sa_ap sa_0 es).2.2.1]
theorem ap_L {n j : Nat} : hL (ap es (am_h0 L xs)) n j = hL (ap es h00) n j := by rw [(sa_ap sa_0 es).2.2.2.1]
theorem ap_ln {n : Nat} (q : n ≠ 0) : hln (ap es (am_h0 L xs)) n = hln (ap es h00) n := ((sa_ap sa_0 es).2.2.2.2 n q).1
theorem ap_I {n j : Nat} (q : n ≠ 0) : hI (ap es (am_h0 L xs)) n j = hI (ap es h00) n j := by rw [((sa_ap sa_0 es).2.2.2.2 n q).2]
end APX
