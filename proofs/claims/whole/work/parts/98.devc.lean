/-! start: the class's first text -/
def frL : List Nat := [116, 97, 107, 101, 32, 108, 97, 116, 101, 32, 60, 32, 53, 48, 32, 97, 110, 100, 32, 110, 111, 105, 115, 101, 32, 60, 32, 52, 32, 59, 32, 99, 97, 108, 108, 32, 102, 97, 114, 32, 60, 32, 49, 48, 48, 32, 111, 114, 32, 52, 32, 61, 32, 107, 105, 110, 100, 32, 59]
def frB (k : Nat) : Nat := frL.getD k 0
theorem fr_c : ∀ k, k < 59 → (am_sb.getD 0 []).getD k 0 = nI (frB k) ∧ frB k < 128 := by decide +kernel
def frT : List Nat := [128, 133, 60, 1, 131, 136, 60, 1, 59, 129, 134, 60, 1, 130, 1, 61, 135, 59]
theorem fr_n : (∀ k, k < 18 → stF frB 59 k < 59 ∧ tkF frB 59 k = frT.getD k 0) ∧ ¬ stF frB 59 18 < 59 := by decide +kernel
theorem fr_t : tkF frB 59 = fun k => frT.getD k 0 := funext fun k => by
  by_cases q : k < 18
  · exact (fr_n.1 k q).2
  · have e := st_end2 fr_n.2 (k - 18)
    rw [show 18 + (k - 18) = k by omega] at e
    unfold tkF
    rw [if_neg e, List.getD_eq_getElem?_getD, List.getElem?_eq_none (by show 18 ≤ k; omega)]
    rfl
def frA : List tOp := [.inr (.inl 0), .inl 50, .inr (.inr (.inr 2)), .inr (.inl 3), .inl 4, .inr (.inr (.inr 2)), .inr (.inr (.inr 1))]
def frC : List tOp := [.inr (.inl 1), .inl 100, .inr (.inr (.inr 2)), .inl 4, .inr (.inl 2), .inr (.inr (.inr 3)), .inr (.inr (.inr 0))]
theorem frP1 : Pq (tkF frB 59) (vlF frB 59) 128 0 [] (true, 9, frA) := Or.inr ⟨by rw [fr_t]; decide +kernel, 60, 60, (true, 8, frA), by rw [fr_t]; rfl, by rw [fr_t]; rfl, by rw [fr_t]; rfl⟩
theorem frP2 : Pq (tkF frB 59) (vlF frB 59) 129 9 frA (true, 18, frA ++ frC) := Or.inr ⟨by rw [fr_t]; decide +kernel, 60, 60, (true, 17, frA ++ frC), by rw [fr_t]; rfl, by rw [fr_t]; rfl, by rw [fr_t]; rfl⟩
def lowE (e : Ew) : Bool := match e with
  | .inl _ => true
  | .inr (.inl _) => true
  | .inr (.inr (.inl (n, _, _))) => decide (n < 1000)
  | .inr (.inr (.inr (.inl (n, _, _)))) => decide (n < 1000)
  | .inr (.inr (.inr (.inr (n, _, _)))) => decide (n < 1000)
theorem ap_hi {h : am_H} : ∀ (es : List Ew), es.all lowE = true → hk (ap es h) < 1000 → ∀ n, 1000 ≤ n → hkd (ap es h) n = hkd h n ∧ hln (ap es h) n = hln h n ∧ hR (ap es h) n = hR h n ∧ hI (ap es h) n = hI h n ∧ hL (ap es h) n = hL h n := by
  intro es
  induction es with
  | nil => intro _ _ n _; exact ⟨rfl, rfl, rfl, rfl, rfl⟩
  | cons e es ih =>
    intro q k n hn
    rw [List.all_cons, Bool.and_eq_true] at q
    obtain ⟨q1, q2⟩ := q
    rcases e with ⟨a, b, c⟩ | ⟨a, b⟩ | ⟨a, b, c⟩ | ⟨a, b, c⟩ | ⟨a, b, c⟩
    · have k' : hk (ap es h) + 1 < 1000 := k
      obtain ⟨i1, i2, i3, i4, i5⟩ := ih q2 (by omega) n hn
      show hkd (newc (ap es h) a b c) n = _ ∧ hln (newc (ap es h) a b c) n = _ ∧ hR (newc (ap es h) a b c) n = _ ∧ hI (newc (ap es h) a b c) n = _ ∧ hL (newc (ap es h) a b c) n = _
      rw [hkd_newc, hln_newc, hR_newN (by omega), hI_newN (by omega), hL_newN (by omega), if_neg (by omega), if_neg (by omega)]
      exact ⟨i1, i2, i3, i4, i5⟩
    · have k' : hk (ap es h) + 1 + a < 1000 := k
      obtain ⟨i1, i2, i3, i4, i5⟩ := ih q2 (by omega) n hn
      refine ⟨?_, ?_, ?_, ?_, ?_⟩
      · rw [← i1]; show (if n = hk (ap es h) + 1 then 105 else if hk (ap es h) + 1 < n ∧ n ≤ hk (ap es h) + 1 + a then 100 else hkd (ap es h) n) = _
        rw [if_neg (by omega), if_neg (by omega)]
      · rw [← i2]; show (if n = hk (ap es h) + 1 then a else if hk (ap es h) + 1 < n ∧ n ≤ hk (ap es h) + 1 + a then b else hln (ap es h) n) = _
        rw [if_neg (by omega), if_neg (by omega)]
      · rw [← i3]
        refine funext fun j => ?_
        show (if n = hk (ap es h) + 1 then (if j < a then some (hk (ap es h) + 2 + j) else none) else if hk (ap es h) + 1 < n ∧ n ≤ hk (ap es h) + 1 + a then none else hR (ap es h) n j) = _
        rw [if_neg (by omega), if_neg (by omega)]
      · rw [← i4]
        refine funext fun j => ?_
        show (if hk (ap es h) + 1 ≤ n ∧ n ≤ hk (ap es h) + 1 + a then 0 else hI (ap es h) n j) = _
        rw [if_neg (by omega)]
      · rw [← i5]
        refine funext fun j => ?_
        show (if hk (ap es h) + 1 ≤ n ∧ n ≤ hk (ap es h) + 1 + a then 0 else hL (ap es h) n j) = _
        rw [if_neg (by omega)]
    · obtain ⟨i1, i2, i3, i4, i5⟩ := ih q2 k n hn
      have := of_decide_eq_true q1
      exact ⟨i1, i2, (hR_ne (by omega)).trans i3, i4, i5⟩
    · obtain ⟨i1, i2, i3, i4, i5⟩ := ih q2 k n hn
      have := of_decide_eq_true q1
      exact ⟨i1, i2, i3, (hI_ne (by omega)).trans i4, i5⟩
    · obtain ⟨i1, i2, i3, i4, i5⟩ := ih q2 k n hn
      have := of_decide_eq_true q1
      exact ⟨i1, i2, i3, i4, (hL_ne (by omega)).trans i5⟩
theorem kd0_cl2 (n : Nat) (q : kd0 n ≠ 999) : n ≤ 52 ∨ (1000000 ≤ n ∧ n < 1000028) := by
  rcases kd0_cl n q with w | w
  · exact Or.inl w
  · refine Or.inr ⟨w, Classical.byContradiction fun z => q ?_⟩
    unfold kd0
    rw [if_neg (by omega), List.getD_eq_getElem?_getD, List.getElem?_eq_none (by show 53 ≤ n; omega)]
    rfl
theorem rf0_cl2 (n f : Nat) (q : rf0 n f ≠ 0) : (n ≤ 52 ∧ f < 20) ∨ (1000000 ≤ n ∧ n < 1000028 ∧ n % 2 = 0) := by
  by_cases w : 1000000 ≤ n ∧ n < 1000028
  · refine Or.inr ⟨w.1, w.2, Classical.byContradiction fun z => q ?_⟩
    unfold rf0
    rw [if_pos w, if_neg z]
  · have q' := q
    unfold rf0 at q
    rw [if_neg w] at q
    have n52 : n ≤ 52 := by
      rcases rf0_cl n f q' with z | z
      · exact z.1
      · exact Classical.byContradiction fun _ => q (by rw [List.getD_eq_getElem?_getD (l := sh_rt), List.getElem?_eq_none (by show 53 ≤ n; omega)]; rfl)
    refine Or.inl ⟨n52, Classical.byContradiction fun z => q ?_⟩
    have ln : ∀ n, n ≤ 52 → (sh_rt.getD n []).length ≤ 20 := by decide
    rw [List.getD_eq_getElem?_getD, List.getElem?_eq_none (by have := ln n n52; omega)]
    rfl
section CTORC
variable {d L : Nat} {xs : Nat → Int32}
theorem a_hk : hk (ap ev_a57 (am_h0 L xs)) = 52 := by rw [ap_hk]; decide +kernel
theorem a_hi : ∀ n, 1000 ≤ n → hkd (ap ev_a57 (am_h0 L xs)) n = hkd (am_h0 L xs) n ∧ hln (ap ev_a57 (am_h0 L xs)) n = hln (am_h0 L xs) n ∧ hR (ap ev_a57 (am_h0 L xs)) n = hR (am_h0 L xs) n ∧ hI (ap ev_a57 (am_h0 L xs)) n = hI (am_h0 L xs) n ∧ hL (ap ev_a57 (am_h0 L xs)) n = hL (am_h0 L xs) n := ap_hi _ (by decide +kernel) (by rw [a_hk]; decide)
theorem a_kd : ∀ n, n < 53 → kd0 n ≠ 999 → hkd (ap ev_a57 h00) n = kd0 n ∧ hln (ap ev_a57 h00) n = ln0 n := by decide +kernel
theorem a_rf : ∀ n, n < 53 → ∀ f, f < 20 → rf0 n f ≠ 0 → hR (ap ev_a57 h00) n f = some (rf0 n f) := by decide +kernel
theorem Sh_a : Sh (ap ev_a57 (am_h0 L xs)) := by
  refine ⟨by rw [a_hk]; omega, fun n q => ?_, fun n f q => ?_⟩
  · rcases kd0_cl2 n q with w | w
    · have z : n ≠ 0 := fun e => q (by rw [e]; rfl)
      rw [ap_kd, ap_ln z]
      exact a_kd n (by omega) q
    · obtain ⟨a1, a2, -⟩ := a_hi (L := L) (xs := xs) n (by omega)
      rw [a1, a2]
      show (if n = 0 then 901 else if 1000000 ≤ n ∧ n < 1000028 then (if n % 2 = 0 then 902 else 903) else 999) = _ ∧ (if n = 0 then L else am_sl.getD ((n - 1000001) / 2) 0) = _
      unfold kd0 ln0
      have z0 : n ≠ 0 := by omega
      rw [if_neg z0, if_pos w, if_neg z0, if_pos w]
      exact ⟨rfl, (if_pos w).symm⟩
  · rcases rf0_cl2 n f q with ⟨w1, w2⟩ | ⟨w1, w2, w3⟩
    · rw [ap_R]; exact a_rf n (by omega) f w2 q
    · obtain ⟨-, -, a3, -⟩ := a_hi (L := L) (xs := xs) n (by omega)
      rw [a3]
      unfold rf0
      rw [if_pos ⟨w1, w2⟩, if_pos w3]
      rfl
theorem Ls_a : Ls (ap ev_a57 (am_h0 L xs)) := fun i j hi hj => by
  obtain ⟨-, -, -, a4, -⟩ := a_hi (L := L) (xs := xs) (1000001 + 2 * i) (by omega)
  obtain ⟨-, -, -, b4, -⟩ := a_hi (L := L) (xs := xs) (1000000 + 2 * i) (by omega)
  rw [a4, b4]
  constructor
  · show (if 1000001 + 2 * i = 0 then xs j else if (1000001 + 2 * i) % 2 = 0 then 0 else (am_sb.getD ((1000001 + 2 * i - 1000001) / 2) []).getD j 0) = _
    rw [if_neg (by omega), if_neg (by omega), show (1000001 + 2 * i - 1000001) / 2 = i by omega]
  · show (if 1000000 + 2 * i = 0 then xs 1 else if (1000000 + 2 * i) % 2 = 0 then 0 else (am_sb.getD ((1000000 + 2 * i - 1000001) / 2) []).getD 1 0) = _
    rw [if_neg (by omega), if_pos (by omega)]
end CTORC
