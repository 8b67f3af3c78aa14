/-! table -/
def binN (f : Nat) : Nat := if f / 10 ≤ 17 then f / 10 else 17
def tabB (m : am_M) (A : List tOp) (sort bin v : Int32) (c : Nat) : Bool := decide ((heardB m c v = true ∧ bI (m 65 c = 1 ∨ m 65 c = 4 ∨ m 65 c = 5) = sort ∧ nI (binN (farN m c)) = bin) ∧ ¬ lateF m c (cl (m 65 c)) v = 1000000000 ∧ ¬ saysF m c (lateF m c (cl (m 65 c)) v) A = 0)
def tabL (m : am_M) (A : List tOp) (sort bin v : Int32) : Nat → Nat → Int64 → Nat → Int64 × Nat
  | 0, _, s, n => (s, n)
  | j + 1, c, s, n => if tabB m A sort bin v c = true then tabL m A sort bin v j (c + 1) (s + (lateF m c (cl (m 65 c)) v).toInt64) (n + 1) else tabL m A sort bin v j (c + 1) s n
theorem tabL_ok {m : am_M} {A : List tOp} {sort bin v : Int32} : ∀ (j c : Nat) (s : Int64) (n : Nat), c + j ≤ 40 → n ≤ c → (n = 0 → s = 0) → s.toInt.natAbs ≤ c * 2147483648 → (tabL m A sort bin v j c s n).2 ≤ 40 ∧ ((tabL m A sort bin v j c s n).2 = 0 → (tabL m A sort bin v j c s n).1 = 0) ∧ (tabL m A sort bin v j c s n).1.toInt.natAbs ≤ 85899345920 := by
  intro j
  induction j with
  | zero => intro c s n h1 h2 h3 h4; exact ⟨by show n ≤ 40; omega, h3, by show s.toInt.natAbs ≤ _; omega⟩
  | succ j ih =>
    intro c s n h1 h2 h3 h4
    rw [tabL]
    split
    · refine ih _ _ _ (by omega) (by omega) (fun w => by omega) ?_
      have a1 := Int32.le_toInt (lateF m c (cl (m 65 c)) v)
      have a2 := Int32.toInt_lt (lateF m c (cl (m 65 c)) v)
      rw [Int64.toInt_add, Int32.toInt_toInt64, Int.bmod_eq_of_le (by omega) (by omega)]
      omega
    · exact ih (c + 1) s n (by omega) (by omega) h3 (Nat.le_trans h4 (Nat.mul_le_mul_right _ (Nat.le_succ c)))
theorem pk_l {a b : Nat} (h0 : 0 < b) (ha : a < 2147483648) (hb : b < 2147483648) : (nI a / nI b).toInt64 = lI a / lI b := by
  rw [pk_div (by omega) (by omega) (by omega), l_nI (Nat.lt_of_le_of_lt (Nat.div_le_self _ _) ha)]
  apply Int64.toInt_inj.mp
  rw [l_tdiv h0 (by omega), lI_toInt (Nat.lt_of_le_of_lt (Nat.div_le_self _ _) (by omega)), lI_toInt (by omega)]
  rfl
theorem lI_0 {n : Nat} (h : n < 9223372036854775808) : (lI n = 0) = (n = 0) := by
  apply propext
  refine ⟨fun e => ?_, fun e => by rw [e]; rfl⟩
  have := congrArg Int64.toInt e
  rw [lI_toInt h] at this
  have z : (0 : Int64).toInt = 0 := rfl
  omega
theorem tx_ft {m : am_M} {h h' : am_H} {t n0 : Nat} {A B : List tOp} (X : textAt_ m h t n0 A B) (F : Ft n0 h h') : textAt_ m h' t n0 A B := by
  have x3 := X.2.2.1
  have e1 : hI h' n0 2 = hI h n0 2 := F.2.2.2.2.2 n0 2 (by omega) (by omega) (by omega)
  have e2 : hI h' (n0 + 1) = hI h (n0 + 1) := funext fun j => F.2.2.2.2.2 (n0 + 1) j (by omega) (by omega) (by omega)
  have e3 : hk h' = hk h := congrArg (fun q => q.1) F.1
  unfold textAt_
  rw [F.2.2.2.1, F.2.1, F.2.2.1, e1, e2, e3]
  exact X
section TABLE
variable {d : Nat} {h : am_H} {m : am_M}
theorem c_gcd {s : Int64} {n : Nat} (hn : n ≤ 40) : ∀ k, k ≤ n → Ev (d + 4) 105 2 [vl s, vu, vi (nI n), vi (nI k)] [] h = some (some (vi (nI (gdF s.toInt n k))), h) := by
  intro k
  induction k with
  | zero => intro e; simp (decide := true) (disch := (first | assumption | (simp only [Sh_setI, Sm_setI, Sh_setL, Sm_setL]; assumption) | omega)) only [B_105_2, n_leO, Nat.zero_le, B_105_30, gdF, bI_True, bI_False, p_max, p_min, p_abs, Option.bind_some, Option.bind_none, Option.toList_some, Option.toList_none, List.cons_append, List.nil_append, bI_eq0, bI_ne0, bI_ne1, bI_eq1, bI_01, eq_self, true_or, or_true, and_true, true_and, false_and, and_false, false_or, or_false, ite_true, ite_false, if_true, if_false, not_true, not_false_iff, Classical.not_not, nem, ite_not, ne_eq]; rfl
  | succ k ih =>
    intro e
    rw [gdF]
    by_cases a : k + 1 ≤ 1
    · rw [if_pos a, B_105_2]
      simp (decide := true) (disch := (first | assumption | (simp only [Sh_setI, Sm_setI, Sh_setL, Sm_setL]; assumption) | omega)) only [n_leO, a, B_105_30, bI_True, bI_False, p_max, p_min, p_abs, Option.bind_some, Option.bind_none, Option.toList_some, Option.toList_none, List.cons_append, List.nil_append, bI_eq0, bI_ne0, bI_ne1, bI_eq1, bI_01, eq_self, true_or, or_true, and_true, true_and, false_and, and_false, false_or, or_false, ite_true, ite_false, if_true, if_false, not_true, not_false_iff, Classical.not_not, nem, ite_not, ne_eq]
      rfl
    · rw [if_neg a]
      have z0 : ¬ (lI (k + 1) = 0) := by rw [lI_0 (by omega)]; omega
      have ih' := ih (by omega)
      by_cases b1 : ((k + 1 : Nat) : Int) ∣ s.toInt
      · by_cases b2 : (k + 1) ∣ n
        · rw [if_pos (show ((k + 1 : Nat) : Int) ∣ s.toInt ∧ (k + 1) ∣ n from ⟨b1, b2⟩), B_105_2]
          simp (decide := true) (disch := (first | assumption | (simp only [Sh_setI, Sm_setI, Sh_setL, Sm_setL]; assumption) | omega)) only [n_leO, a, B_105_7, l_nI, z0, lg_eq0, l_rem0, Nat.succ_pos, b1, B_105_16, n_eqO, Nat.succ_ne_zero, n_rem0, b2, B_105_22, bI_True, bI_False, p_max, p_min, p_abs, Option.bind_some, Option.bind_none, Option.toList_some, Option.toList_none, List.cons_append, List.nil_append, bI_eq0, bI_ne0, bI_ne1, bI_eq1, bI_01, eq_self, true_or, or_true, and_true, true_and, false_and, and_false, false_or, or_false, ite_true, ite_false, if_true, if_false, not_true, not_false_iff, Classical.not_not, nem, ite_not, ne_eq]
        · rw [if_neg (show ¬ (((k + 1 : Nat) : Int) ∣ s.toInt ∧ (k + 1) ∣ n) from fun w => b2 w.2), B_105_2]
          simp (decide := true) (disch := (first | assumption | (simp only [Sh_setI, Sm_setI, Sh_setL, Sm_setL]; assumption) | omega)) only [n_leO, a, B_105_7, l_nI, z0, lg_eq0, l_rem0, Nat.succ_pos, b1, B_105_16, n_eqO, Nat.succ_ne_zero, n_rem0, b2, B_105_24, n_pm1, Nat.le_add_left, Nat.add_sub_cancel, bI_True, bI_False, p_max, p_min, p_abs, Option.bind_some, Option.bind_none, Option.toList_some, Option.toList_none, List.cons_append, List.nil_append, bI_eq0, bI_ne0, bI_ne1, bI_eq1, bI_01, eq_self, true_or, or_true, and_true, true_and, false_and, and_false, false_or, or_false, ite_true, ite_false, if_true, if_false, not_true, not_false_iff, Classical.not_not, nem, ite_not, ne_eq]
          exact ih'
      · rw [if_neg (show ¬ (((k + 1 : Nat) : Int) ∣ s.toInt ∧ (k + 1) ∣ n) from fun w => b1 w.1), B_105_2]
        simp (decide := true) (disch := (first | assumption | (simp only [Sh_setI, Sm_setI, Sh_setL, Sm_setL]; assumption) | omega)) only [n_leO, a, B_105_7, l_nI, z0, lg_eq0, l_rem0, Nat.succ_pos, b1, B_105_24, n_pm1, Nat.le_add_left, Nat.add_sub_cancel, bI_True, bI_False, p_max, p_min, p_abs, Option.bind_some, Option.bind_none, Option.toList_some, Option.toList_none, List.cons_append, List.nil_append, bI_eq0, bI_ne0, bI_ne1, bI_eq1, bI_01, eq_self, true_or, or_true, and_true, true_and, false_and, and_false, false_or, or_false, ite_true, ite_false, if_true, if_false, not_true, not_false_iff, Classical.not_not, nem, ite_not, ne_eq]
        exact ih'
theorem m_euclid {s n' : Int64} {p : Int32} : ∀ (B b a : Nat) (a9 : am_V), b ≤ B → a < 9223372036854775808 → b < 9223372036854775808 → ∃ a9', Ev (d + 4) 199 33 [vl s, vu, vl n', vu, vi p, vl (lI a), vu, vl (lI b), vu, a9, vu] [] h = Ev (d + 4) 199 58 [vl s, vu, vl n', vu, vi p, vl (lI (Nat.gcd a b)), vu, vl (lI 0), vu, a9', vu] [] h := by
  intro B
  induction B with
  | zero =>
    intro b a a9 hb ha _
    have : b = 0 := by omega
    subst this
    refine ⟨a9, ?_⟩
    rw [B_199_33]
    simp (decide := true) (disch := (first | assumption | (simp only [Sh_setI, Sm_setI, Sh_setL, Sm_setL]; assumption) | omega)) only [lg_eq0, lI_0, Nat.gcd_zero_right, bI_True, bI_False, p_max, p_min, p_abs, Option.bind_some, Option.bind_none, Option.toList_some, Option.toList_none, List.cons_append, List.nil_append, bI_eq0, bI_ne0, bI_ne1, bI_eq1, bI_01, eq_self, true_or, or_true, and_true, true_and, false_and, and_false, false_or, or_false, ite_true, ite_false, if_true, if_false, not_true, not_false_iff, Classical.not_not, nem, ite_not, ne_eq]
  | succ B ih =>
    intro b a a9 hb ha hb2
    by_cases z : b = 0
    · subst z
      refine ⟨a9, ?_⟩
      rw [B_199_33]
      simp (decide := true) (disch := (first | assumption | (simp only [Sh_setI, Sm_setI, Sh_setL, Sm_setL]; assumption) | omega)) only [lg_eq0, lI_0, Nat.gcd_zero_right, bI_True, bI_False, p_max, p_min, p_abs, Option.bind_some, Option.bind_none, Option.toList_some, Option.toList_none, List.cons_append, List.nil_append, bI_eq0, bI_ne0, bI_ne1, bI_eq1, bI_01, eq_self, true_or, or_true, and_true, true_and, false_and, and_false, false_or, or_false, ite_true, ite_false, if_true, if_false, not_true, not_false_iff, Classical.not_not, nem, ite_not, ne_eq]
    · have ml := Nat.mod_lt a (show b > 0 by omega)
      obtain ⟨a9', e⟩ := ih (a % b) b (vl (lI (a % b))) (by omega) hb2 (by omega)
      refine ⟨a9', ?_⟩
      rw [B_199_33]
      simp (decide := true) (disch := (first | assumption | (simp only [Sh_setI, Sm_setI, Sh_setL, Sm_setL]; assumption) | omega)) only [lg_eq0, lI_0, z, B_199_40, l_mod, Nat.pos_of_ne_zero, bI_True, bI_False, p_max, p_min, p_abs, Option.bind_some, Option.bind_none, Option.toList_some, Option.toList_none, List.cons_append, List.nil_append, bI_eq0, bI_ne0, bI_ne1, bI_eq1, bI_01, eq_self, true_or, or_true, and_true, true_and, false_and, and_false, false_or, or_false, ite_true, ite_false, if_true, if_false, not_true, not_false_iff, Classical.not_not, nem, ite_not, ne_eq]
      rw [Nat.gcd_comm b (a % b), ← Nat.gcd_rec, Nat.gcd_comm b a] at e
      exact e
end TABLE
