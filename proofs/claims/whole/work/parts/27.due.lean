/-! what is due, as one function; its size -/
def dueF (th p q : Nat → Int32) (n : Nat) (kind : Nat) (far deep : Int32) : Int32 := match kind with
  | 2 => backF th p n far (n - 1)
  | 3 => laterF (backF th p n far (n - 1)) (2 * downF (p 0) n deep)
  | 4 => halfF (laterF (leastF th q n far) (-(downF (p 0) n deep))) (leastF th p n far)
  | 5 => if backF th q n far (n - 1) = -1 then backF th p n far 1 else backF th q n far (n - 1)
  | 1 => laterF (leastF th q n far) (-(downF (p 0) n deep))
  | _ => laterF (leastF th p n far) (-(downF (p 0) n deep))
def sumN (th : Nat → Int32) : Nat → Nat
  | 0 => 0
  | n + 1 => sumN th n + (th n).toNatClampNeg
/-- the shells are as they may be -/
def ballOk (th p q : Nat → Int32) (n : Nat) : Prop := n ≤ 5 ∧ sumN th n ≤ 590 ∧ ∀ k, k < n → (∃ a, th k = nI a ∧ 1 ≤ a ∧ a ≤ 200) ∧ (∃ b, p k = nI b ∧ 1 ≤ b ∧ b ≤ 99) ∧ ∃ c, q k = nI c ∧ c ≤ 99
section DUE
variable {d : Nat} {h : am_H}
theorem c_least0 (S : Sh h) {n : Nat} (hn : hI h 2 2 = nI n) (h5 : n ≤ 5) {far : Int32} : Cl (d + 5) 51 [vr (some 2), vi 0, vi far] h = some (some (vi (leastF (hI h 3) (hI h 5) n far)), h) := c_least (s := 0) S hn h5 (by decide)
theorem c_least1 (S : Sh h) {n : Nat} (hn : hI h 2 2 = nI n) (h5 : n ≤ 5) {far : Int32} : Cl (d + 5) 51 [vr (some 2), vi 1, vi far] h = some (some (vi (leastF (hI h 3) (hI h 6) n far)), h) := c_least (s := 1) S hn h5 (by decide)
theorem c_backm0 (S : Sh h) {n : Nat} (hn : hI h 2 2 = nI n) (h5 : n ≤ 5) {far : Int32} : Cl (d + 4) 48 [vr (some 2), vi 0, vi far, vi (hI h 2 2 - 1)] h = some (some (vi (backF (hI h 3) (hI h 5) n far (n - 1))), h) := c_backm (s := 0) S hn h5 (by decide)
theorem c_backm1 (S : Sh h) {n : Nat} (hn : hI h 2 2 = nI n) (h5 : n ≤ 5) {far : Int32} : Cl (d + 4) 48 [vr (some 2), vi 1, vi far, vi (hI h 2 2 - 1)] h = some (some (vi (backF (hI h 3) (hI h 6) n far (n - 1))), h) := c_backm (s := 1) S hn h5 (by decide)
theorem c_back01 (S : Sh h) {n : Nat} (hn : hI h 2 2 = nI n) (h5 : n ≤ 5) {far : Int32} : Cl (d + 4) 48 [vr (some 2), vi 0, vi far, vi 1] h = some (some (vi (backF (hI h 3) (hI h 5) n far 1)), h) := c_back (s := 0) S hn h5 (by decide) 1 (by decide)
theorem sl0_eq : (fun k => hI h 58 (5 * 0 + k)) = hI h 58 := funext fun k => by rw [Nat.mul_zero, Nat.zero_add]
theorem m_least0 (T : Sm h) {n : Nat} (hn : hI h 56 1 = nI n) (h5 : n ≤ 5) {far : Int32} : Cl (d + 4) 152 [vr (some 56), vi 0, vi far] h = some (some (vi (leastF (hI h 57) (hI h 58) n far)), h) := by
  rw [← sl0_eq (h := h)]; exact m_least (s := 0) T hn h5 (by decide)
theorem m_least1 (T : Sm h) {n : Nat} (hn : hI h 56 1 = nI n) (h5 : n ≤ 5) {far : Int32} : Cl (d + 4) 152 [vr (some 56), vi 1, vi far] h = some (some (vi (leastF (hI h 57) (fun k => hI h 58 (5 + k)) n far)), h) := m_least (s := 1) T hn h5 (by decide)
theorem m_backm0 (T : Sm h) {n : Nat} (hn : hI h 56 1 = nI n) (h5 : n ≤ 5) {far : Int32} : Cl (d + 4) 155 [vr (some 56), vi 0, vi far, vi (hI h 56 1 - 1)] h = some (some (vi (backF (hI h 57) (hI h 58) n far (n - 1))), h) := by
  rw [← sl0_eq (h := h)]; exact m_backm (s := 0) T hn h5 (by decide)
theorem m_backm1 (T : Sm h) {n : Nat} (hn : hI h 56 1 = nI n) (h5 : n ≤ 5) {far : Int32} : Cl (d + 4) 155 [vr (some 56), vi 1, vi far, vi (hI h 56 1 - 1)] h = some (some (vi (backF (hI h 57) (fun k => hI h 58 (5 + k)) n far (n - 1))), h) := m_backm (s := 1) T hn h5 (by decide)
theorem m_back01 (T : Sm h) {n : Nat} (hn : hI h 56 1 = nI n) (h5 : n ≤ 5) {far : Int32} : Cl (d + 4) 155 [vr (some 56), vi 0, vi far, vi 1] h = some (some (vi (backF (hI h 57) (hI h 58) n far 1)), h) := by
  rw [← sl0_eq (h := h)]; exact m_back (s := 0) T hn h5 (by decide) 1 (by decide)
theorem c_dueOf (S : Sh h) {n : Nat} (hn : hI h 2 2 = nI n) (h5 : n ≤ 5) {far deep : Int32} {k : Nat} (hk : k < 6) : Cl (d + 6) 46 [vr (some 2), vi (nI k), vi far, vi deep] h = some (some (vi (dueF (hI h 3) (hI h 5) (hI h 6) n k far deep)), h) := by
  match k, hk with
  | 0, _ => simp (decide := true) (disch := (first | assumption | omega)) only [E_46, B_46_0, B_46_4, B_46_36, B_46_49, B_46_50, B_46_63, B_46_69, B_46_73, B_46_74, B_46_81, B_46_86, B_46_90, B_46_96, B_46_99, B_46_100, B_46_113, B_46_120, B_46_123, B_46_124, B_46_131, B_46_136, B_46_140, c_sortOf, n_eqO, am_swE, c_least0 S hn h5, c_down S hn h5, c_later, dueF, bI_True, bI_False, p_max, p_min, p_abs, Option.bind_some, Option.bind_none, Option.toList_some, Option.toList_none, List.cons_append, List.nil_append, bI_eq0, bI_ne0, bI_ne1, bI_eq1, bI_01, eq_self, true_or, or_true, and_true, true_and, false_and, and_false, false_or, or_false, ite_true, ite_false, if_true, if_false, not_true, not_false_iff, Classical.not_not, nem, ite_not, ne_eq]
  | 1, _ => simp (decide := true) (disch := (first | assumption | omega)) only [E_46, B_46_0, B_46_4, B_46_36, B_46_49, B_46_50, B_46_63, B_46_69, B_46_73, B_46_74, B_46_81, B_46_86, B_46_90, B_46_96, B_46_99, B_46_100, B_46_113, B_46_120, B_46_123, B_46_124, B_46_131, B_46_136, B_46_140, c_sortOf, n_eqO, am_swE, c_least1 S hn h5, c_down S hn h5, c_later, dueF, bI_True, bI_False, p_max, p_min, p_abs, Option.bind_some, Option.bind_none, Option.toList_some, Option.toList_none, List.cons_append, List.nil_append, bI_eq0, bI_ne0, bI_ne1, bI_eq1, bI_01, eq_self, true_or, or_true, and_true, true_and, false_and, and_false, false_or, or_false, ite_true, ite_false, if_true, if_false, not_true, not_false_iff, Classical.not_not, nem, ite_not, ne_eq]
  | 2, _ => simp (decide := true) (disch := (first | assumption | omega)) only [E_46, B_46_0, B_46_4, B_46_36, B_46_49, B_46_50, B_46_63, B_46_69, B_46_73, B_46_74, B_46_81, B_46_86, B_46_90, B_46_96, B_46_99, B_46_100, B_46_113, B_46_120, B_46_123, B_46_124, B_46_131, B_46_136, B_46_140, c_sortOf, n_eqO, am_swE, c_backm0 S hn h5, dueF, bI_True, bI_False, p_max, p_min, p_abs, Option.bind_some, Option.bind_none, Option.toList_some, Option.toList_none, List.cons_append, List.nil_append, bI_eq0, bI_ne0, bI_ne1, bI_eq1, bI_01, eq_self, true_or, or_true, and_true, true_and, false_and, and_false, false_or, or_false, ite_true, ite_false, if_true, if_false, not_true, not_false_iff, Classical.not_not, nem, ite_not, ne_eq]
  | 3, _ => simp (decide := true) (disch := (first | assumption | omega)) only [E_46, B_46_0, B_46_4, B_46_36, B_46_49, B_46_50, B_46_63, B_46_69, B_46_73, B_46_74, B_46_81, B_46_86, B_46_90, B_46_96, B_46_99, B_46_100, B_46_113, B_46_120, B_46_123, B_46_124, B_46_131, B_46_136, B_46_140, c_sortOf, n_eqO, am_swE, c_backm0 S hn h5, c_down S hn h5, c_later, dueF, bI_True, bI_False, p_max, p_min, p_abs, Option.bind_some, Option.bind_none, Option.toList_some, Option.toList_none, List.cons_append, List.nil_append, bI_eq0, bI_ne0, bI_ne1, bI_eq1, bI_01, eq_self, true_or, or_true, and_true, true_and, false_and, and_false, false_or, or_false, ite_true, ite_false, if_true, if_false, not_true, not_false_iff, Classical.not_not, nem, ite_not, ne_eq]
  | 4, _ => simp (decide := true) (disch := (first | assumption | omega)) only [E_46, B_46_0, B_46_4, B_46_36, B_46_49, B_46_50, B_46_63, B_46_69, B_46_73, B_46_74, B_46_81, B_46_86, B_46_90, B_46_96, B_46_99, B_46_100, B_46_113, B_46_120, B_46_123, B_46_124, B_46_131, B_46_136, B_46_140, c_sortOf, n_eqO, am_swE, c_least0 S hn h5, c_least1 S hn h5, c_down S hn h5, c_later, c_halfOf, dueF, bI_True, bI_False, p_max, p_min, p_abs, Option.bind_some, Option.bind_none, Option.toList_some, Option.toList_none, List.cons_append, List.nil_append, bI_eq0, bI_ne0, bI_ne1, bI_eq1, bI_01, eq_self, true_or, or_true, and_true, true_and, false_and, and_false, false_or, or_false, ite_true, ite_false, if_true, if_false, not_true, not_false_iff, Classical.not_not, nem, ite_not, ne_eq]
  | 5, _ => simp (decide := true) (disch := (first | assumption | omega)) only [E_46, B_46_0, B_46_4, B_46_36, B_46_49, B_46_50, B_46_63, B_46_69, B_46_73, B_46_74, B_46_81, B_46_86, B_46_90, B_46_96, B_46_99, B_46_100, B_46_113, B_46_120, B_46_123, B_46_124, B_46_131, B_46_136, B_46_140, c_sortOf, n_eqO, am_swE, c_backm1 S hn h5, c_back01 S hn h5, c_firstThere, dueF, bI_True, bI_False, p_max, p_min, p_abs, Option.bind_some, Option.bind_none, Option.toList_some, Option.toList_none, List.cons_append, List.nil_append, bI_eq0, bI_ne0, bI_ne1, bI_eq1, bI_01, eq_self, true_or, or_true, and_true, true_and, false_and, and_false, false_or, or_false, ite_true, ite_false, if_true, if_false, not_true, not_false_iff, Classical.not_not, nem, ite_not, ne_eq]
/-- sizes -/
theorem sumN_le {th : Nat → Int32} {k n : Nat} (h : k ≤ n) : sumN th k ≤ sumN th n := by
  induction n with
  | zero => rw [Nat.le_zero.mp h]; exact Nat.le_refl _
  | succ n ih =>
    rcases Nat.lt_or_ge n k with q | q
    · rw [show k = n + 1 by omega]; exact Nat.le_refl _
    · exact Nat.le_trans (ih q) (Nat.le_add_right _ _)
theorem backL_sz {th p q : Nat → Int32} {n : Nat} (B : ballOk th p q n) {sl : Nat → Int32} (hs : sl = p ∨ sl = q) : ∀ (j k x : Nat), k + j ≤ n → backL th sl j k (nI x) = none ∨ ∃ y, backL th sl j k (nI x) = some (nI y) ∧ y ≤ x + 19800 * j := by
  intro j
  induction j with
  | zero => intro k x e; exact Or.inr ⟨x, rfl, by omega⟩
  | succ j ih =>
    intro k x e
    obtain ⟨⟨a, ha, ha1, ha2⟩, ⟨b, hb, hb1, hb2⟩, c, hc, hc2⟩ := B.2.2 k (by omega)
    obtain ⟨v, hv, hv2⟩ : ∃ v, sl k = nI v ∧ v ≤ 99 := by
      rcases hs with rfl | rfl
      · exact ⟨b, hb, hb2⟩
      · exact ⟨c, hc, hc2⟩
    rw [backL]
    split
    · exact Or.inl rfl
    · rw [ha, hv, n_mul, n_add]
      have hav : a * v ≤ 200 * 99 := Nat.mul_le_mul ha2 hv2
      rcases ih (k + 1) (x + a * v) (by omega) with z | ⟨y, z1, z2⟩
      · exact Or.inl z
      · exact Or.inr ⟨y, z1, by omega⟩
theorem backF_sz {th p q : Nat → Int32} {n : Nat} (B : ballOk th p q n) {sl : Nat → Int32} (hs : sl = p ∨ sl = q) {f e : Nat} (hf : f ≤ 180) : backF th sl n (nI f) e = -1 ∨ ∃ y, backF th sl n (nI f) e = nI y ∧ y ≤ 250000 := by
  unfold backF
  split
  · rename_i w
    rcases backL_sz B hs e 0 0 (by omega) with z | ⟨y, z1, z2⟩
    · rw [show (0 : Int32) = nI 0 from rfl, z]; exact Or.inl rfl
    · rw [show (0 : Int32) = nI 0 from rfl, z1]
      obtain ⟨⟨a, ha, ha1, ha2⟩, ⟨b, hb, hb1, hb2⟩, c, hc, hc2⟩ := B.2.2 (e - 1) (by omega)
      obtain ⟨v, hv, hv2⟩ : ∃ v, sl (e - 1) = nI v ∧ v ≤ 99 := by
        rcases hs with rfl | rfl
        · exact ⟨b, hb, hb2⟩
        · exact ⟨c, hc, hc2⟩
      have h5 := B.1
      have hfv : f * v ≤ 180 * 99 := Nat.mul_le_mul hf hv2
      refine Or.inr ⟨2 * y + f * v, ?_, by omega⟩
      show 2 * nI y + nI f * sl (e - 1) = _
      rw [hv, show (2 : Int32) = nI 2 from rfl, n_mul, n_mul, n_add]
  · exact Or.inl rfl
theorem leastL_sz {th p q : Nat → Int32} {n : Nat} (B : ballOk th p q n) {sl : Nat → Int32} (hs : sl = p ∨ sl = q) {f : Nat} (hf : f ≤ 180) : ∀ (j k : Nat) (best : Int32) (D : Nat), k + j = n → (best = -1 ∨ ∃ y, best = nI y ∧ y ≤ 320000) → D ≤ 19800 * k → leastL th sl n (nI f) j k best (nI (600 - sumN th k)) (nI D) = -1 ∨ ∃ y, leastL th sl n (nI f) j k best (nI (600 - sumN th k)) (nI D) = nI y ∧ y ≤ 320000 := by
  intro j
  induction j with
  | zero => intro k best D e hb hD; exact hb
  | succ j ih =>
    intro k best D e hbest hD
    have h5 := B.1
    obtain ⟨⟨a, ha, ha1, ha2⟩, ⟨b, hb, hb1, hb2⟩, c, hc, hc2⟩ := B.2.2 k (by omega)
    obtain ⟨v, hv, hv2⟩ : ∃ v, sl k = nI v ∧ v ≤ 99 := by
      rcases hs with rfl | rfl
      · exact ⟨b, hb, hb2⟩
      · exact ⟨c, hc, hc2⟩
    have hsum : sumN th (k + 1) ≤ 590 := Nat.le_trans (sumN_le (by omega)) B.2.1
    have hsk : sumN th (k + 1) = sumN th k + a := by rw [sumN, ha, n_cl (by omega)]
    have hav : a * v ≤ 200 * 99 := Nat.mul_le_mul ha2 hv2
    have hfg : f * (600 - sumN th k) ≤ 180 * 600 := Nat.mul_le_mul hf (by omega)
    have hfgv : f * (600 - sumN th k) * v ≤ 180 * 600 * 99 := Nat.mul_le_mul hfg hv2
    have ht : 2 * nI D + nI f * nI (600 - sumN th k) * sl k / 100 = nI (2 * D + f * (600 - sumN th k) * v / 100) := by
      rw [hv, show (2 : Int32) = nI 2 from rfl, show (100 : Int32) = nI 100 from rfl, n_mul, n_mul, n_mul, pk_div (by omega) (by omega) (by omega), n_add]
    have hT : f * (600 - sumN th k) * v / 100 ≤ 106920 := by omega
    rw [leastL]
    split
    · exact hbest
    · rw [ht, show nI (600 - sumN th k) - th k = nI (600 - sumN th (k + 1)) by rw [ha, n_sub (by omega), hsk, Nat.sub_sub], show nI D + th k * sl k = nI (D + a * v) by rw [ha, hv, n_mul, n_add]]
      refine ih (k + 1) _ (D + a * v) (by omega) ?_ (by omega)
      have ht2 : ∃ y, nI (2 * D + f * (600 - sumN th k) * v / 100) = nI y ∧ y ≤ 320000 := ⟨_, rfl, by omega⟩
      split
      · split
        · exact Or.inr ht2
        · split
          · exact hbest
          · exact Or.inr ht2
      · exact hbest
theorem leastF_sz {th p q : Nat → Int32} {n : Nat} (B : ballOk th p q n) {sl : Nat → Int32} (hs : sl = p ∨ sl = q) {f : Nat} (hf : f ≤ 180) : leastF th sl n (nI f) = -1 ∨ ∃ y, leastF th sl n (nI f) = nI y ∧ y ≤ 320000 := leastL_sz B hs hf n 0 (-1) 0 (Nat.zero_add n) (Or.inl rfl) (Nat.zero_le _)
end DUE
