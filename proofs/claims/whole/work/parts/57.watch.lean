/-! watch: bits -/
def mkM (P : Nat → Bool) : Nat → Nat
  | 0 => 0
  | k + 1 => mkM P k ||| (if P k = true then 2 ^ k else 0)
def anyB (P : Nat → Bool) (s : Nat) : Nat → Bool
  | 0 => false
  | k + 1 => anyB P s k || (decide (s / 2 ^ k % 2 = 1) && P k)
theorem mkM_lt (P : Nat → Bool) : ∀ k, mkM P k < 2 ^ k := by
  intro k
  induction k with
  | zero => exact Nat.one_pos
  | succ k ih =>
    have e : 2 ^ (k + 1) = 2 * 2 ^ k := by rw [Nat.pow_succ, Nat.mul_comm]
    refine Nat.or_lt_two_pow (by omega) ?_
    by_cases p : P k = true
    · rw [if_pos p]
      have := Nat.two_pow_pos k
      omega
    · rw [if_neg p]
      exact Nat.two_pow_pos _
theorem mkM_any (P : Nat → Bool) (s : Nat) : ∀ k, (mkM P k &&& s = 0) = (anyB P s k = false) := by
  intro k
  induction k with
  | zero => exact propext ⟨fun _ => rfl, fun _ => by rw [mkM, Nat.zero_and]⟩
  | succ k ih =>
    rw [mkM, anyB, Nat.and_or_distrib_right, Bool.or_eq_false_iff, ← ih]
    have e : ((if P k = true then 2 ^ k else 0) &&& s = 0) = ((decide (s / 2 ^ k % 2 = 1) && P k) = false) := by
      by_cases p : P k = true
      · rw [if_pos p, p, Bool.and_true]
        have t := Nat.testBit_eq_decide_div_mod_eq (x := s) (i := k)
        rw [← t]
        refine propext ⟨fun z => ?_, fun z => Nat.eq_of_testBit_eq fun i => ?_⟩
        · have := congrArg (fun x => Nat.testBit x k) z
          simpa [Nat.testBit_and, Nat.testBit_two_pow_self] using this
        · rw [Nat.testBit_and, Nat.testBit_two_pow, Nat.zero_testBit]
          by_cases e : k = i
          · rw [← e, z, Bool.and_false]
          · simp [e]
      · rw [if_neg p, Nat.zero_and]
        simp at p
        simp [p]
    rw [← e]
    exact propext Nat.or_eq_zero_iff
theorem n_and {a b : Nat} : nI a &&& nI b = nI (a &&& b) := by
  unfold nI
  apply Int32.toBitVec_inj.mp
  rw [Int32.toBitVec_and]
  exact BitVec.ofNat_and.symm
theorem n_or {a b : Nat} : nI a ||| nI b = nI (a ||| b) := by
  unfold nI
  apply Int32.toBitVec_inj.mp
  rw [Int32.toBitVec_or]
  exact BitVec.ofNat_or.symm
set_option maxRecDepth 20000 in
theorem sh_1 : ∀ k, k < 9 → (1 : Int32) <<< (nI k &&& 31) = nI (2 ^ k) := by decide
set_option maxRecDepth 40000 in
theorem sh_b : ∀ s, s < 256 → ∀ k, k < 8 → (nI s >>> (nI k &&& 31)) &&& 1 = nI (s / 2 ^ k % 2) := by decide

def popS (s : Nat) : Nat → Nat
  | 0 => 0
  | k + 1 => popS s k + s / 2 ^ k % 2
def bcF (a0 : Int32) : Int32 := ((((((((a0 - (((Int32.toUInt32 a0 >>> (Int32.toUInt32 1 &&& Int32.toUInt32 31)).toInt32) &&& 1431655765)) &&& 858993459) + (((Int32.toUInt32 (a0 - (((Int32.toUInt32 a0 >>> (Int32.toUInt32 1 &&& Int32.toUInt32 31)).toInt32) &&& 1431655765)) >>> (Int32.toUInt32 2 &&& Int32.toUInt32 31)).toInt32) &&& 858993459)) + ((Int32.toUInt32 (((a0 - (((Int32.toUInt32 a0 >>> (Int32.toUInt32 1 &&& Int32.toUInt32 31)).toInt32) &&& 1431655765)) &&& 858993459) + (((Int32.toUInt32 (a0 - (((Int32.toUInt32 a0 >>> (Int32.toUInt32 1 &&& Int32.toUInt32 31)).toInt32) &&& 1431655765)) >>> (Int32.toUInt32 2 &&& Int32.toUInt32 31)).toInt32) &&& 858993459)) >>> (Int32.toUInt32 4 &&& Int32.toUInt32 31)).toInt32)) &&& 252645135) + ((Int32.toUInt32 (((((a0 - (((Int32.toUInt32 a0 >>> (Int32.toUInt32 1 &&& Int32.toUInt32 31)).toInt32) &&& 1431655765)) &&& 858993459) + (((Int32.toUInt32 (a0 - (((Int32.toUInt32 a0 >>> (Int32.toUInt32 1 &&& Int32.toUInt32 31)).toInt32) &&& 1431655765)) >>> (Int32.toUInt32 2 &&& Int32.toUInt32 31)).toInt32) &&& 858993459)) + ((Int32.toUInt32 (((a0 - (((Int32.toUInt32 a0 >>> (Int32.toUInt32 1 &&& Int32.toUInt32 31)).toInt32) &&& 1431655765)) &&& 858993459) + (((Int32.toUInt32 (a0 - (((Int32.toUInt32 a0 >>> (Int32.toUInt32 1 &&& Int32.toUInt32 31)).toInt32) &&& 1431655765)) >>> (Int32.toUInt32 2 &&& Int32.toUInt32 31)).toInt32) &&& 858993459)) >>> (Int32.toUInt32 4 &&& Int32.toUInt32 31)).toInt32)) &&& 252645135) >>> (Int32.toUInt32 8 &&& Int32.toUInt32 31)).toInt32)) + ((Int32.toUInt32 ((((((a0 - (((Int32.toUInt32 a0 >>> (Int32.toUInt32 1 &&& Int32.toUInt32 31)).toInt32) &&& 1431655765)) &&& 858993459) + (((Int32.toUInt32 (a0 - (((Int32.toUInt32 a0 >>> (Int32.toUInt32 1 &&& Int32.toUInt32 31)).toInt32) &&& 1431655765)) >>> (Int32.toUInt32 2 &&& Int32.toUInt32 31)).toInt32) &&& 858993459)) + ((Int32.toUInt32 (((a0 - (((Int32.toUInt32 a0 >>> (Int32.toUInt32 1 &&& Int32.toUInt32 31)).toInt32) &&& 1431655765)) &&& 858993459) + (((Int32.toUInt32 (a0 - (((Int32.toUInt32 a0 >>> (Int32.toUInt32 1 &&& Int32.toUInt32 31)).toInt32) &&& 1431655765)) >>> (Int32.toUInt32 2 &&& Int32.toUInt32 31)).toInt32) &&& 858993459)) >>> (Int32.toUInt32 4 &&& Int32.toUInt32 31)).toInt32)) &&& 252645135) + ((Int32.toUInt32 (((((a0 - (((Int32.toUInt32 a0 >>> (Int32.toUInt32 1 &&& Int32.toUInt32 31)).toInt32) &&& 1431655765)) &&& 858993459) + (((Int32.toUInt32 (a0 - (((Int32.toUInt32 a0 >>> (Int32.toUInt32 1 &&& Int32.toUInt32 31)).toInt32) &&& 1431655765)) >>> (Int32.toUInt32 2 &&& Int32.toUInt32 31)).toInt32) &&& 858993459)) + ((Int32.toUInt32 (((a0 - (((Int32.toUInt32 a0 >>> (Int32.toUInt32 1 &&& Int32.toUInt32 31)).toInt32) &&& 1431655765)) &&& 858993459) + (((Int32.toUInt32 (a0 - (((Int32.toUInt32 a0 >>> (Int32.toUInt32 1 &&& Int32.toUInt32 31)).toInt32) &&& 1431655765)) >>> (Int32.toUInt32 2 &&& Int32.toUInt32 31)).toInt32) &&& 858993459)) >>> (Int32.toUInt32 4 &&& Int32.toUInt32 31)).toInt32)) &&& 252645135) >>> (Int32.toUInt32 8 &&& Int32.toUInt32 31)).toInt32)) >>> (Int32.toUInt32 16 &&& Int32.toUInt32 31)).toInt32)) &&& 63)
set_option maxRecDepth 40000 in
theorem bcF_pop : ∀ D, D < 9 → ∀ s, s < 2 ^ D → bcF (nI s) = nI (popS s D) := by decide
