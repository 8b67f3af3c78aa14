/-! new objects; reads after writes, so that simp keeps their proofs -/
theorem xI_setL {h : am_H} {n i : Nat} {v : Int64} : hI (setL h n i v) = hI h := Eq.trans rfl rfl
theorem xI_setR {h : am_H} {n i : Nat} {v : Option Nat} : hI (setR h n i v) = hI h := Eq.trans rfl rfl
theorem xL_setI {h : am_H} {n i : Nat} {v : Int32} : hL (setI h n i v) = hL h := Eq.trans rfl rfl
theorem xL_setR {h : am_H} {n i : Nat} {v : Option Nat} : hL (setR h n i v) = hL h := Eq.trans rfl rfl
theorem xR_setI {h : am_H} {n i : Nat} {v : Int32} : hR (setI h n i v) = hR h := Eq.trans rfl rfl
theorem xR_setL {h : am_H} {n i : Nat} {v : Int64} : hR (setL h n i v) = hR h := Eq.trans rfl rfl
theorem xkd_setI {h : am_H} {n i : Nat} {v : Int32} : hkd (setI h n i v) = hkd h := Eq.trans rfl rfl
theorem xkd_setL {h : am_H} {n i : Nat} {v : Int64} : hkd (setL h n i v) = hkd h := Eq.trans rfl rfl
theorem xkd_setR {h : am_H} {n i : Nat} {v : Option Nat} : hkd (setR h n i v) = hkd h := Eq.trans rfl rfl
theorem xln_setI {h : am_H} {n i : Nat} {v : Int32} : hln (setI h n i v) = hln h := Eq.trans rfl rfl
theorem xln_setL {h : am_H} {n i : Nat} {v : Int64} : hln (setL h n i v) = hln h := Eq.trans rfl rfl
theorem xln_setR {h : am_H} {n i : Nat} {v : Option Nat} : hln (setR h n i v) = hln h := Eq.trans rfl rfl
theorem xk_setI {h : am_H} {n i : Nat} {v : Int32} : hk (setI h n i v) = hk h := Eq.trans rfl rfl
theorem xk_setL {h : am_H} {n i : Nat} {v : Int64} : hk (setL h n i v) = hk h := Eq.trans rfl rfl
theorem xk_setR {h : am_H} {n i : Nat} {v : Option Nat} : hk (setR h n i v) = hk h := Eq.trans rfl rfl
theorem xs_setI {h : am_H} {n i : Nat} {v : Int32} : hs (setI h n i v) = hs h := Eq.trans rfl rfl
theorem xs_setL {h : am_H} {n i : Nat} {v : Int64} : hs (setL h n i v) = hs h := Eq.trans rfl rfl
theorem xs_setR {h : am_H} {n i : Nat} {v : Option Nat} : hs (setR h n i v) = hs h := Eq.trans rfl rfl
theorem hk_newc {h : am_H} {a b c : Nat} : hk (newc h a b c) = hk h + 1 := Eq.trans rfl rfl
theorem hs_newc {h : am_H} {a b c : Nat} : hs (newc h a b c) = hs h + c := Eq.trans rfl rfl
theorem hkd_newc {h : am_H} {a b c : Nat} (n : Nat) : hkd (newc h a b c) n = if n = hk h + 1 then a else hkd h n := Eq.trans rfl rfl
theorem hln_newc {h : am_H} {a b c : Nat} (n : Nat) : hln (newc h a b c) n = if n = hk h + 1 then b else hln h n := Eq.trans rfl rfl
theorem hI_newc {h : am_H} {a b c : Nat} (n j : Nat) : hI (newc h a b c) n j = if n = hk h + 1 then 0 else hI h n j := Eq.trans rfl rfl
theorem hL_newc {h : am_H} {a b c : Nat} (n j : Nat) : hL (newc h a b c) n j = if n = hk h + 1 then 0 else hL h n j := Eq.trans rfl rfl
theorem hR_newc {h : am_H} {a b c : Nat} (n j : Nat) : hR (newc h a b c) n j = if n = hk h + 1 then none else hR h n j := Eq.trans rfl rfl
theorem hI_newN {h : am_H} {a b c n : Nat} (q : n ≠ hk h + 1) : hI (newc h a b c) n = hI h n := funext fun j => if_neg q
theorem hL_newN {h : am_H} {a b c n : Nat} (q : n ≠ hk h + 1) : hL (newc h a b c) n = hL h n := funext fun j => if_neg q
theorem hR_newN {h : am_H} {a b c n : Nat} (q : n ≠ hk h + 1) : hR (newc h a b c) n = hR h n := funext fun j => if_neg q
theorem hR_eq {h : am_H} {n i a j : Nat} {v : Option Nat} : hR (setR h n i v) a j = if a = n ∧ j = i then v else hR h a j := Eq.trans rfl rfl
theorem hR_ne {h : am_H} {n i a : Nat} {v : Option Nat} (q : a ≠ n) : hR (setR h n i v) a = hR h a := funext fun j => if_neg (fun w => q w.1)
theorem kd0_cl (n : Nat) (q : kd0 n ≠ 999) : n ≤ 52 ∨ 1000000 ≤ n := by
  unfold kd0 at q
  split at q
  · omega
  · by_cases w : n ≤ 52
    · exact Or.inl w
    · exact absurd (by rw [List.getD_eq_getElem?_getD, List.getElem?_eq_none (by show 53 ≤ n; omega)]; rfl) q
theorem km0_cl (n : Nat) (q : km0 n ≠ 999) : n ≤ 88 := by
  unfold km0 at q
  by_cases w : n ≤ 88
  · exact w
  · exact absurd (by rw [List.getD_eq_getElem?_getD, List.getElem?_eq_none (by show 89 ≤ n; omega)]; rfl) q
theorem rf0_cl (n f : Nat) (q : rf0 n f ≠ 0) : (n ≤ 52 ∧ n ≠ 7 ∧ n ≠ 8 ∧ n ≠ 9 ∧ n ≠ 17) ∨ 1000000 ≤ n := by
  unfold rf0 at q
  split at q
  · omega
  · by_cases w : n ≤ 52
    · refine Or.inl ⟨w, ?_, ?_, ?_, ?_⟩ <;> (rintro rfl; exact q rfl)
    · exact absurd (by rw [List.getD_eq_getElem?_getD (l := sh_rt), List.getElem?_eq_none (by show 53 ≤ n; omega)]; rfl) q
theorem rg0_cl (n f : Nat) (q : rg0 n f ≠ 0) : n = 56 := by
  unfold rg0 at q
  by_cases w : n ≤ 88
  · have : ∀ n, n ≤ 88 → n ≠ 56 → sm_rt.getD n [] = [] := by decide
    by_cases e : n = 56
    · exact e
    · rw [this n w e] at q
      exact absurd rfl q
  · exact absurd (by rw [List.getD_eq_getElem?_getD (l := sm_rt), List.getElem?_eq_none (by show 89 ≤ n; omega)]; rfl) q
/-- one new object, and it stands at place k of row arr -/
def Kn (arr k : Nat) (h h' : am_H) : Prop := hk h' = hk h + 1 ∧ hs h' ≤ hs h + 9 ∧ (∀ a, a ≠ hk h + 1 → hkd h' a = hkd h a ∧ hln h' a = hln h a ∧ hL h' a = hL h a) ∧ (∀ a j, a ≠ hk h + 1 → (a ≠ arr ∨ j ≠ k) → hR h' a j = hR h a j) ∧ ∀ a, a = 0 ∨ 52 < a → a < 56 ∨ 88 < a → a ≠ hk h + 1 → hI h' a = hI h a
section KN
variable {arr k : Nat} {h h' : am_H} {m m' : am_M}
theorem Kn.si (K : Kn arr k h h') {n i : Nat} {v : Int32} (q : (1 ≤ n ∧ n ≤ 52) ∨ (56 ≤ n ∧ n ≤ 88)) : Kn arr k h (setI h' n i v) := ⟨K.1, K.2.1, K.2.2.1, K.2.2.2.1, fun a q1 q2 q3 => by rw [hI_ne (by omega)]; exact K.2.2.2.2 a q1 q2 q3⟩
theorem Kn.sh (K : Kn arr k h h') (S : Sh h) (h8 : 88 ≤ hk h) (hb : hk h < 900000) (ha : arr = 7 ∨ arr = 8 ∨ arr = 9) : Sh h' := by
  obtain ⟨k1, k2, k3, k4, k5⟩ := K
  refine ⟨by omega, fun n q => ?_, fun n f q => ?_⟩
  · have w := kd0_cl n q
    rw [(k3 n (by omega)).1, (k3 n (by omega)).2.1]
    exact S.2.1 n q
  · have w := rf0_cl n f q
    rw [k4 n f (by omega) (by omega)]
    exact S.2.2 n f q
theorem Kn.sm (K : Kn arr k h h') (S : Sm h) (ha : arr = 7 ∨ arr = 8 ∨ arr = 9) : Sm h' := by
  obtain ⟨k1, k2, k3, k4, k5⟩ := K
  have := S.1
  refine ⟨by omega, fun n q => ?_, fun n f q => ?_⟩
  · have w := km0_cl n q
    rw [(k3 n (by omega)).1, (k3 n (by omega)).2.1]
    exact S.2.1 n q
  · have w := rg0_cl n f q
    rw [k4 n f (by omega) (by omega)]
    exact S.2.2 n f q
theorem Kn.lt (K : Kn arr k h h') (L : Lt h) (h8 : 88 ≤ hk h) (hb : hk h < 900000) : Lt h' := by
  obtain ⟨k1, k2, k3, k4, k5⟩ := K
  refine ⟨by rw [(k3 0 (by omega)).1]; exact L.1, fun j hj => ?_, fun i j hi hj => ?_⟩
  · rw [(k3 85 (by omega)).2.2]; exact L.2.1 j hj
  · exact ⟨by rw [k5 _ (by omega) (by omega) (by omega)]; exact (L.2.2 i j hi hj).1, by rw [k5 _ (by omega) (by omega) (by omega)]; exact (L.2.2 i j hi hj).2⟩
theorem Kn.gr (K : Kn arr k h h') (h8 : 88 ≤ hk h) : Gr h h' := by
  obtain ⟨k1, k2, k3, k4, k5⟩ := K
  exact ⟨k5 0 (by omega) (by omega) (by omega), (k3 0 (by omega)).1, (k3 0 (by omega)).2.1, by omega, by omega⟩
theorem Kn.d (K : Kn arr k h h') (h8 : 88 ≤ hk h) (hc : arr ≠ 7) (C : CrD m h) (q1 : hI h' 1 4 = hI h 1 4) (q2 : m' 56 4 = m 56 4) (q3 : ∀ k, k < 8 → m' 59 k = m 59 k ∧ m' 60 k = m 60 k ∧ m' 61 k = m 61 k) (h9 : yD m ≤ 8) : CrD m' h' := by
  obtain ⟨k1, k2, k3, k4, k5⟩ := K
  refine ⟨q1.trans (C.1.trans q2.symm), fun j hj => ?_⟩
  rw [show yD m' = yD m by unfold yD; rw [q2]] at hj
  obtain ⟨n, n1, n2, n3, n4, n5⟩ := C.2 j hj
  obtain ⟨w1, w2, w3⟩ := q3 j (by omega)
  exact ⟨n, by rw [k4 7 j (by omega) (by omega)]; exact n1, by rw [(k3 n (by omega)).1]; exact n2, n3, by omega, by rw [k5 n (by omega) (by omega) (by omega), w1, w2, w3]; exact n5⟩
theorem Kn.s (K : Kn arr k h h') (h8 : 88 ≤ hk h) (hc : arr ≠ 8) (C : CrS m h) (q1 : hI h' 1 5 = hI h 1 5) (q2 : m' 56 8 = m 56 8) (q3 : ∀ k, k < 6 → m' 62 k = m 62 k ∧ m' 63 k = m 63 k ∧ m' 64 k = m 64 k) (h9 : yS m ≤ 6) : CrS m' h' := by
  obtain ⟨k1, k2, k3, k4, k5⟩ := K
  refine ⟨q1.trans (C.1.trans q2.symm), fun j hj => ?_⟩
  rw [show yS m' = yS m by unfold yS; rw [q2]] at hj
  obtain ⟨n, n1, n2, n3, n4, n5⟩ := C.2 j hj
  obtain ⟨w1, w2, w3⟩ := q3 j (by omega)
  exact ⟨n, by rw [k4 8 j (by omega) (by omega)]; exact n1, by rw [(k3 n (by omega)).1]; exact n2, n3, by omega, by rw [k5 n (by omega) (by omega) (by omega), w1, w2, w3]; exact n5⟩
theorem Kn.cd (K : Kn arr k h h') (h8 : 88 ≤ hk h) (hA : arr = 7 ∨ arr = 8 ∨ arr = 9) {j n : Nat} (C : cardAt_ m h j n) (q3 : ∀ n, 65 ≤ n → n ≤ 72 → m' n j = m n j) (hc : arr ≠ 9 ∨ j ≠ k) (hd : arr ≠ 7 ∨ yDr m j ≠ k) (hs' : arr ≠ 8 ∨ ySh m j ≠ k) : cardAt_ m' h' j n := by
  obtain ⟨k1, k2, k3, k4, k5⟩ := K
  obtain ⟨n1, n2, n3, n4, n5⟩ := C
  refine ⟨by rw [k4 9 j (by omega) (by omega)]; exact n1, by rw [(k3 n (by omega)).1]; exact n2, n3, by omega, ?_⟩
  have e1 : yDr m' j = yDr m j := by unfold yDr; rw [q3 66 (by omega) (by omega)]
  have e2 : ySh m' j = ySh m j := by unfold ySh; rw [q3 67 (by omega) (by omega)]
  rw [k5 n (by omega) (by omega) (by omega), k4 n 3 (by omega) (by omega), k4 n 4 (by omega) (by omega), e1, e2, k4 7 _ (by omega) (by omega), k4 8 _ (by omega) (by omega), q3 65 (by omega) (by omega), q3 68 (by omega) (by omega), q3 69 (by omega) (by omega), q3 70 (by omega) (by omega), q3 71 (by omega) (by omega), q3 72 (by omega) (by omega)]
  exact n5
theorem Kn.c (K : Kn arr k h h') (h8 : 88 ≤ hk h) (hA : arr = 7 ∨ arr = 8 ∨ arr = 9) (hc : arr ≠ 9) (I : InvC m) (ha : (arr = 7 → k = yD m) ∧ (arr = 8 → k = yS m)) (C : CrC m h) (q1 : hI h' 1 6 = hI h 1 6) (q2 : m' 56 12 = m 56 12) (q3 : ∀ n, 65 ≤ n → n ≤ 72 → m' n = m n) : CrC m' h' := by
  have eC : yC m' = yC m := by unfold yC; rw [q2]
  refine ⟨q1.trans (C.1.trans q2.symm), fun j hj => ?_, fun i j hi hj e => ?_⟩
  · rw [eC] at hj
    obtain ⟨n, n1⟩ := C.2.1 j hj
    have i1 := (I.2.1 j hj).2.1.2
    have i2 := (I.2.1 j hj).2.2.1.2
    exact ⟨n, K.cd h8 hA n1 (fun n a b => by rw [q3 n a b]) (Or.inl hc) (by omega) (by omega)⟩
  · rw [eC] at hi hj
    rw [K.2.2.2.1 9 _ (by omega) (Or.inl (by omega)), K.2.2.2.1 9 _ (by omega) (Or.inl (by omega))] at e
    exact C.2.2 i j hi hj e
theorem Kn.t (K : Kn arr k h h') (h8 : 88 ≤ hk h) (ha : arr ≠ 17 ∧ arr ≤ 52) (C : ∀ t, t < yT m → ∃ n A B, textAt_ m h t n A B) (q2 : m' 56 25 = m 56 25) (q3 : m' 74 = m 74) (q4 : m' 75 = m 75) : ∀ t, t < yT m' → ∃ n A B, textAt_ m' h' t n A B := by
  obtain ⟨k1, k2, k3, k4, k5⟩ := K
  intro t ht
  rw [show yT m' = yT m by unfold yT; rw [q2]] at ht
  obtain ⟨n, A, B, n1, n2, n3, n4, n5, n6, n7, n8, n9, n10, n11, n12, n13⟩ := C t ht
  refine ⟨n, A, B, by rw [k4 17 _ (by omega) (by omega)]; exact n1, by rw [(k3 n (by omega)).1]; exact n2, n3, by omega, by rw [k4 n _ (by omega) (by omega)]; exact n5, by rw [k4 n _ (by omega) (by omega)]; exact n6, by rw [(k3 _ (by omega)).1]; exact n7, by rw [(k3 _ (by omega)).1]; exact n8, by rw [(k3 _ (by omega)).2.1]; exact n9, by rw [(k3 _ (by omega)).2.1]; exact n10, n11, ?_⟩
  rw [k5 n (by omega) (by omega) (by omega), k5 (n + 1) (by omega) (by omega) (by omega), q3, q4]
  exact ⟨n12, n13⟩
theorem stq_new {d jc jm : Nat} {as : List am_V} {h1 h2 : am_H} {v : am_V} (R : Rel h) (hb : hk h < 900000) (K : Kn arr k h h2) (ha : arr = 7 ∨ arr = 8 ∨ arr = 9) (e1 : Cl d jc (vr (some 1) :: as) h = some (some v, h1)) (e2 : Cl d jm (vr (some 56) :: as) h1 = some (some v, h2)) (I2 : Inv (hI h2)) (C2 : CR (hI h2) h2) : Stq d jc jm as h := ⟨v, h1, h2, e1, e2, ⟨K.sh R.1 R.2.1.1 hb ha, K.sm R.2.1 ha, I2, C2, K.lt R.2.2.2.2 R.2.1.1 hb⟩, K.gr R.2.1.1⟩
end KN
