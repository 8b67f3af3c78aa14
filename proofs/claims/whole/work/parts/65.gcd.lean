/-! table: longs, and the greatest that divides two -/
theorem nI_ti {n : Nat} (h : n < 2147483648) : (nI n).toInt = n := by
  unfold nI; exact Int32.toInt_ofNat_of_lt h
def lI (n : Nat) : Int64 := Int64.ofNat n
theorem lI_toInt {n : Nat} (h : n < 9223372036854775808) : (lI n).toInt = n := Int64.toInt_ofNat_of_lt h
theorem l_nI {n : Nat} (h : n < 2147483648) : (nI n).toInt64 = lI n := by
  apply Int64.toInt_inj.mp
  rw [Int32.toInt_toInt64, nI_ti h, lI_toInt (by omega)]
theorem lg_eq0 {x y : Int64} : (lg_cmp x y = 0) = (x = y) := by
  unfold lg_cmp
  apply propext
  by_cases a : x > y
  · rw [if_pos a]
    refine ⟨fun w => absurd w (by decide), fun w => ?_⟩
    rw [w] at a
    exact absurd a (Int64.lt_irrefl)
  · rw [if_neg a]
    by_cases b : x = y
    · rw [if_pos b]; exact ⟨fun _ => b, fun _ => rfl⟩
    · rw [if_neg b]; exact ⟨fun w => absurd w (by decide), fun w => absurd w b⟩
theorem l_tdiv {s : Int64} {d : Nat} (h0 : 0 < d) (hd : d < 9223372036854775808) : (s / lI d).toInt = s.toInt.tdiv d := by
  rw [Int64.toInt_div, lI_toInt hd]
  have h1 := Int64.le_toInt s
  have h2 := Int64.toInt_lt s
  have a1 : (s.toInt.tdiv d).natAbs ≤ s.toInt.natAbs := by
    rw [Int.natAbs_tdiv]
    exact Nat.div_le_self _ _
  have a2 : s.toInt = -9223372036854775808 → d ≠ 1 → (s.toInt.tdiv d).natAbs < 9223372036854775808 := by
    intro e q
    rw [Int.natAbs_tdiv, e]
    show 9223372036854775808 / (d : Int).natAbs < _
    rw [Int.natAbs_natCast]
    have : 2 ≤ d := by omega
    exact Nat.div_lt_self (by omega) (by omega)
  by_cases q : d = 1
  · subst q
    rw [Int.bmod_eq_of_le] <;> simp <;> omega
  · rw [Int.bmod_eq_of_le] <;> omega
theorem l_rem0 {s : Int64} {d : Nat} (h0 : 0 < d) (hd : d < 9223372036854775808) : (s - s / lI d * lI d = 0) = ((d : Int) ∣ s.toInt) := by
  have e := l_tdiv (s := s) h0 hd
  have h1 := Int64.le_toInt s
  have h2 := Int64.toInt_lt s
  have t := Int.mul_tdiv_add_tmod s.toInt d
  have t2 : (s.toInt.tmod d).natAbs < d := by
    rw [Int.natAbs_tmod, Int.natAbs_natCast]
    exact Nat.mod_lt _ h0
  have t3 : (s.toInt.tmod d).natAbs ≤ s.toInt.natAbs := by
    rw [Int.natAbs_tmod]
    exact Nat.mod_le _ _
  have t4 : ((s.toInt.tdiv d) * d).natAbs ≤ s.toInt.natAbs := by
    rw [Int.natAbs_mul, Int.natAbs_tdiv, Int.natAbs_natCast]
    exact Nat.div_mul_le_self _ _
  have m : (s / lI d * lI d).toInt = s.toInt.tdiv d * d := by
    rw [Int64.toInt_mul, e, lI_toInt hd]
    by_cases q : (s.toInt.tdiv d) * d = 9223372036854775808
    · exfalso
      have : (d : Int) * s.toInt.tdiv d = 9223372036854775808 := by rw [Int.mul_comm]; exact q
      omega
    · rw [Int.bmod_eq_of_le] <;> omega
  have r : (s - s / lI d * lI d).toInt = s.toInt.tmod d := by
    rw [Int64.toInt_sub, m]
    have : (d : Int) * s.toInt.tdiv d = s.toInt.tdiv d * d := Int.mul_comm _ _
    rw [Int.bmod_eq_of_le] <;> omega
  apply propext
  rw [← Int64.toInt_inj, r, show (0 : Int64).toInt = 0 from rfl]
  exact ⟨Int.dvd_of_tmod_eq_zero, Int.tmod_eq_zero_of_dvd⟩
theorem l_mod {a b : Nat} (h0 : 0 < b) (ha : a < 9223372036854775808) (hb : b < 9223372036854775808) : lI a - lI a / lI b * lI b = lI (a % b) := by
  have e : lI a / lI b = lI (a / b) := by
    apply Int64.toInt_inj.mp
    rw [l_tdiv h0 hb, lI_toInt ha, lI_toInt (Nat.lt_of_le_of_lt (Nat.div_le_self _ _) ha)]
    rfl
  rw [e]
  have q := Nat.div_add_mod a b
  have q2 := Nat.div_mul_le_self a b
  have q3 := Nat.mod_le a b
  have q4 : b * (a / b) = a / b * b := Nat.mul_comm _ _
  apply Int64.toInt_inj.mp
  rw [lI_toInt (by omega), Int64.toInt_sub, Int64.toInt_mul, lI_toInt ha, lI_toInt (Nat.lt_of_le_of_lt (Nat.div_le_self _ _) ha), lI_toInt hb]
  rw [show ((a / b : Nat) : Int) * (b : Int) = ((a / b * b : Nat) : Int) from (Int.natCast_mul _ _).symm]
  generalize a / b * b = x at *
  rw [Int.bmod_eq_of_le (n := x) (by omega) (by omega), Int.bmod_eq_of_le (by omega) (by omega)]
  omega
def gdF (z : Int) (n : Nat) : Nat → Nat
  | 0 => 1
  | k + 1 => if k + 1 ≤ 1 then 1 else if ((k + 1 : Nat) : Int) ∣ z ∧ (k + 1) ∣ n then k + 1 else gdF z n k
theorem gdF_gcd (z : Int) (n : Nat) : ∀ k, 1 ≤ Nat.gcd z.natAbs n → Nat.gcd z.natAbs n ≤ k → gdF z n k = Nat.gcd z.natAbs n := by
  intro k
  induction k with
  | zero => intro h1 h2; omega
  | succ k ih =>
    intro h1 h2
    rw [gdF]
    have d1 := Nat.gcd_dvd_left z.natAbs n
    have d2 := Nat.gcd_dvd_right z.natAbs n
    by_cases a : k + 1 ≤ 1
    · rw [if_pos a]; omega
    · rw [if_neg a]
      by_cases b : ((k + 1 : Nat) : Int) ∣ z ∧ (k + 1) ∣ n
      · rw [if_pos b]
        have := Nat.dvd_gcd (by have := Int.natAbs_dvd_natAbs.mpr b.1; rwa [Int.natAbs_natCast] at this) b.2
        have := Nat.le_of_dvd (by omega) this
        omega
      · rw [if_neg b]
        have : Nat.gcd z.natAbs n ≠ k + 1 := fun e => b ⟨by rw [← e]; exact Int.natAbs_dvd_natAbs.mp (by rw [Int.natAbs_natCast]; exact d1), by rw [← e]; exact d2⟩
        exact ih h1 (by omega)
theorem gd_pos (z : Int) (n : Nat) : ∀ k, 1 ≤ gdF z n k := by
  intro k
  induction k with
  | zero => exact Nat.le_refl _
  | succ k ih =>
    rw [gdF]
    split
    · exact Nat.le_refl _
    · split
      · omega
      · exact ih
theorem gd_le (z : Int) (n : Nat) : ∀ k, gdF z n k ≤ max 1 k := by
  intro k
  induction k with
  | zero => exact Nat.le_refl _
  | succ k ih =>
    rw [gdF]
    split
    · omega
    · split
      · omega
      · omega
theorem abs_l {s : Int64} (hz : s.toInt.natAbs < 9223372036854775808) : (if 0 ≤ s then s else -s) = lI s.toInt.natAbs := by
  have h1 := Int64.le_toInt s
  have h2 := Int64.toInt_lt s
  by_cases a : 0 ≤ s
  · rw [if_pos a]
    rw [Int64.le_iff_toInt_le, show (0 : Int64).toInt = 0 from rfl] at a
    apply Int64.toInt_inj.mp
    rw [lI_toInt hz]; omega
  · rw [if_neg a]
    rw [Int64.le_iff_toInt_le, show (0 : Int64).toInt = 0 from rfl] at a
    apply Int64.toInt_inj.mp
    rw [lI_toInt hz, Int64.toInt_neg, Int.bmod_eq_of_le (by omega) (by omega)]; omega
theorem n_rem0 {a d : Nat} (h0 : 0 < d) (ha : a < 2147483648) (hd : d < 2147483648) : (nI a - nI a / nI d * nI d = 0) = (d ∣ a) := by
  have e : nI a / nI d = nI (a / d) := by
    apply Int32.toInt_inj.mp
    have q := Nat.div_le_self a d
    rw [Int32.toInt_div, nI_ti ha, nI_ti hd, nI_ti (by omega)]
    rw [show (a : Int).tdiv (d : Int) = ((a / d : Nat) : Int) from rfl]
    generalize a / d = x at *
    rw [Int.bmod_eq_of_le (by omega) (by omega)]
  rw [e]
  have q := Nat.div_add_mod a d
  have q2 := Nat.div_mul_le_self a d
  have q3 := Nat.div_le_self a d
  have q4 : d * (a / d) = a / d * d := Nat.mul_comm _ _
  have r : (nI a - nI (a / d) * nI d).toInt = ((a % d : Nat) : Int) := by
    rw [Int32.toInt_sub, Int32.toInt_mul, nI_ti ha, nI_ti (by omega), nI_ti hd]
    rw [show ((a / d : Nat) : Int) * (d : Int) = ((a / d * d : Nat) : Int) from (Int.natCast_mul _ _).symm]
    generalize a / d * d = x at *
    rw [Int.bmod_eq_of_le (n := x) (by omega) (by omega), Int.bmod_eq_of_le (by omega) (by omega)]
    omega
  apply propext
  rw [← Int32.toInt_inj, r, show (0 : Int32).toInt = 0 from rfl]
  rw [Nat.dvd_iff_mod_eq_zero]
  omega
