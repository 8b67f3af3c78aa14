/-! what is due: the model's; sizes; a like ball has like dues -/
section DUE2
variable {d : Nat} {h : am_H}
theorem downF_sz {th p q : Nat → Int32} {n : Nat} (B : ballOk th p q n) {v : Nat} (hv : v ≤ 99) : ∃ y, downF (p 0) n (nI v) = nI y ∧ y ≤ 990 := by
  unfold downF
  split
  · exact ⟨0, rfl, by omega⟩
  · obtain ⟨-, ⟨b, hb, hb1, hb2⟩, -⟩ := B.2.2 0 (by omega)
    have hvb : v * b ≤ 99 * 99 := Nat.mul_le_mul hv hb2
    refine ⟨v * b / 10, ?_, by omega⟩
    rw [hb, n_mul, show (10 : Int32) = nI 10 from rfl, pk_div (by omega) (by omega) (by omega)]
theorem nI_ne_m1 {y : Nat} (hy : y < 2147483648) : nI y ≠ -1 := fun e => by
  have := nI_pos' (n := y) hy
  rw [e] at this
  exact absurd this (by decide)
theorem later_sz {t : Int32} {x y : Nat} {b : Int32} (hb : b = nI y ∨ b = -nI y) (hy : y ≤ 2000) (ht : t = -1 ∨ ∃ x, t = nI x ∧ x ≤ 320000) : laterF t b = -1 ∨ ∃ z, laterF t b = nI z ∧ z ≤ 322000 := by
  unfold laterF
  rcases ht with rfl | ⟨x, rfl, hx⟩
  · exact Or.inl (if_pos rfl)
  · rw [if_neg (nI_ne_m1 (by omega))]
    rcases hb with rfl | rfl
    · rw [n_add]
      split
      · exact Or.inr ⟨_, rfl, by omega⟩
      · exact Or.inr ⟨0, rfl, by omega⟩
    · rw [← Int32.sub_eq_add_neg]
      by_cases w : y ≤ x
      · rw [n_sub w]
        split
        · exact Or.inr ⟨_, rfl, by omega⟩
        · exact Or.inr ⟨0, rfl, by omega⟩
      · have := pk_sneg (a := x) (b := y) (by omega) (by omega)
        rw [if_neg (fun e => absurd (Int32.lt_trans e this) (by decide))]
        exact Or.inr ⟨0, rfl, by omega⟩
theorem dueF_sz {th p q : Nat → Int32} {n : Nat} (B : ballOk th p q n) {f v k : Nat} (hf : f ≤ 180) (hv : v ≤ 99) : dueF th p q n k (nI f) (nI v) = -1 ∨ ∃ y, dueF th p q n k (nI f) (nI v) = nI y ∧ y ≤ 330000 := by
  have up : ∀ {t : Int32} {m : Nat}, m ≤ 330000 → (t = -1 ∨ ∃ y, t = nI y ∧ y ≤ m) → (t = -1 ∨ ∃ y, t = nI y ∧ y ≤ 330000) := fun hm ht => ht.imp id (fun ⟨y, a, b⟩ => ⟨y, a, by omega⟩)
  obtain ⟨y, hy, hy2⟩ := downF_sz B hv
  have hp := leastF_sz B (Or.inl rfl) hf
  have hq := leastF_sz B (Or.inr rfl) hf
  have bp := fun e => backF_sz B (Or.inl rfl) hf (e := e)
  have bq := fun e => backF_sz B (Or.inr rfl) hf (e := e)
  have hdef : laterF (leastF th p n (nI f)) (-(downF (p 0) n (nI v))) = -1 ∨ ∃ y, laterF (leastF th p n (nI f)) (-(downF (p 0) n (nI v))) = nI y ∧ y ≤ 330000 := up (by omega) (later_sz (x := 0) (y := y) (Or.inr (by rw [hy])) (by omega) hp)
  have hdefq : laterF (leastF th q n (nI f)) (-(downF (p 0) n (nI v))) = -1 ∨ ∃ y, laterF (leastF th q n (nI f)) (-(downF (p 0) n (nI v))) = nI y ∧ y ≤ 322000 := later_sz (x := 0) (y := y) (Or.inr (by rw [hy])) (by omega) hq
  match k with
  | 0 => exact hdef
  | 1 => exact up (by omega) hdefq
  | 2 => exact up (by omega) (bp _)
  | 3 => exact up (by omega) (later_sz (x := 0) (y := 2 * y) (Or.inl (by rw [hy, show (2 : Int32) = nI 2 from rfl, n_mul])) (by omega) ((bp _).imp id (fun ⟨y, a, b⟩ => ⟨y, a, by omega⟩)))
  | 4 =>
    show halfF _ _ = -1 ∨ ∃ y, halfF _ _ = nI y ∧ _
    unfold halfF
    split
    · exact Or.inl rfl
    · rename_i w
      rcases hdefq with z | ⟨a, ha, ha2⟩
      · exact absurd (Or.inl z) w
      · rcases hp with z | ⟨b, hb, hb2⟩
        · exact absurd (Or.inr z) w
        · rw [ha, hb, n_add, show (2 : Int32) = nI 2 from rfl, pk_div (by omega) (by omega) (by omega)]
          exact Or.inr ⟨_, rfl, by omega⟩
  | 5 =>
    simp only [dueF]
    split
    · exact up (by omega) (bp _)
    · exact up (by omega) (bq _)
  | k + 6 => exact hdef
theorem leastL_cg {th th' sl sl' : Nat → Int32} {n : Nat} (h1 : ∀ k, k < n → th k = th' k) (h2 : ∀ k, k < n → sl k = sl' k) {far : Int32} : ∀ (j k : Nat) (best g dn : Int32), k + j = n → leastL th sl n far j k best g dn = leastL th' sl' n far j k best g dn := by
  intro j
  induction j with
  | zero => intro k best g dn e; rfl
  | succ j ih =>
    intro k best g dn e
    rw [leastL, leastL, h1 k (by omega), h2 k (by omega)]
    split
    · rfl
    · exact ih _ _ _ _ (by omega)
theorem backL_cg {th th' sl sl' : Nat → Int32} {n : Nat} (h1 : ∀ k, k < n → th k = th' k) (h2 : ∀ k, k < n → sl k = sl' k) : ∀ (j k : Nat) (dn : Int32), k + j ≤ n → backL th sl j k dn = backL th' sl' j k dn := by
  intro j
  induction j with
  | zero => intro k dn e; rfl
  | succ j ih =>
    intro k dn e
    rw [backL, backL, h1 k (by omega), h2 k (by omega)]
    split
    · rfl
    · exact ih _ _ (by omega)
theorem leastF_cg {th th' sl sl' : Nat → Int32} {n : Nat} (h1 : ∀ k, k < n → th k = th' k) (h2 : ∀ k, k < n → sl k = sl' k) {far : Int32} : leastF th sl n far = leastF th' sl' n far := leastL_cg h1 h2 n 0 _ _ _ (Nat.zero_add n)
theorem backF_cg {th th' sl sl' : Nat → Int32} {n : Nat} (h1 : ∀ k, k < n → th k = th' k) (h2 : ∀ k, k < n → sl k = sl' k) {far : Int32} {e : Nat} : backF th sl n far e = backF th' sl' n far e := by
  unfold backF
  split
  · rename_i w
    rw [backL_cg h1 h2 e 0 0 (by omega), h2 (e - 1) (by omega)]
  · rfl
theorem dueF_cg {th th' p p' q q' : Nat → Int32} {n : Nat} (h1 : ∀ k, k < n → th k = th' k) (h2 : ∀ k, k < n → p k = p' k) (h3 : ∀ k, k < n → q k = q' k) {k : Nat} {far deep : Int32} : dueF th p q n k far deep = dueF th' p' q' n k far deep := by
  have hd : downF (p 0) n deep = downF (p' 0) n deep := by
    unfold downF
    split
    · rfl
    · rw [h2 0 (by omega)]
  unfold dueF
  split <;> simp only [hd, leastF_cg h1 h2, leastF_cg h1 h3, backF_cg h1 h2, backF_cg h1 h3]
theorem m_dueOf (T : Sm h) {n : Nat} (hn : hI h 56 1 = nI n) (B : ballOk (hI h 57) (hI h 58) (fun k => hI h 58 (5 + k)) n) {f v : Nat} (hf : f ≤ 180) (hv : v ≤ 99) {k : Nat} (hk : k < 6) : Cl (d + 6) 151 [vr (some 56), vi (nI k), vi (nI f), vi (nI v)] h = some (some (vi (dueF (hI h 57) (hI h 58) (fun k => hI h 58 (5 + k)) n k (nI f) (nI v))), h) := by
  have h5 := B.1
  match k, hk with
  | 0, _ => simp (decide := true) (disch := (first | assumption | omega)) only [E_151, B_151_0, B_151_36, B_151_43, B_151_47, B_151_48, B_151_60, B_151_61, B_151_73, B_151_81, B_151_85, B_151_93, B_151_95, B_151_96, B_151_103, B_151_107, B_151_115, B_151_121, B_151_125, B_151_129, B_151_137, B_151_140, B_151_141, B_151_153, B_151_161, B_151_168, B_151_171, B_151_173, n_eqO, am_swE, m_least T hn h5, m_lessDown T hn h5, dueF, T.kd (n := 56) (k := 11) rfl rfl, sl0_eq, bI_True, bI_False, p_max, p_min, p_abs, Option.bind_some, Option.bind_none, Option.toList_some, Option.toList_none, List.cons_append, List.nil_append, bI_eq0, bI_ne0, bI_ne1, bI_eq1, bI_01, eq_self, true_or, or_true, and_true, true_and, false_and, and_false, false_or, or_false, ite_true, ite_false, if_true, if_false, not_true, not_false_iff, Classical.not_not, nem, ite_not, ne_eq]
  | 1, _ => simp (decide := true) (disch := (first | assumption | omega)) only [E_151, B_151_0, B_151_36, B_151_43, B_151_47, B_151_48, B_151_60, B_151_61, B_151_73, B_151_81, B_151_85, B_151_93, B_151_95, B_151_96, B_151_103, B_151_107, B_151_115, B_151_121, B_151_125, B_151_129, B_151_137, B_151_140, B_151_141, B_151_153, B_151_161, B_151_168, B_151_171, B_151_173, n_eqO, am_swE, m_least T hn h5, m_lessDown T hn h5, dueF, T.kd (n := 56) (k := 11) rfl rfl, Nat.mul_one, bI_True, bI_False, p_max, p_min, p_abs, Option.bind_some, Option.bind_none, Option.toList_some, Option.toList_none, List.cons_append, List.nil_append, bI_eq0, bI_ne0, bI_ne1, bI_eq1, bI_01, eq_self, true_or, or_true, and_true, true_and, false_and, and_false, false_or, or_false, ite_true, ite_false, if_true, if_false, not_true, not_false_iff, Classical.not_not, nem, ite_not, ne_eq]
  | 2, _ => simp (decide := true) (disch := (first | assumption | omega)) only [E_151, B_151_0, B_151_36, B_151_43, B_151_47, B_151_48, B_151_60, B_151_61, B_151_73, B_151_81, B_151_85, B_151_93, B_151_95, B_151_96, B_151_103, B_151_107, B_151_115, B_151_121, B_151_125, B_151_129, B_151_137, B_151_140, B_151_141, B_151_153, B_151_161, B_151_168, B_151_171, B_151_173, n_eqO, am_swE, m_backm0 T hn h5, dueF, bI_True, bI_False, p_max, p_min, p_abs, Option.bind_some, Option.bind_none, Option.toList_some, Option.toList_none, List.cons_append, List.nil_append, bI_eq0, bI_ne0, bI_ne1, bI_eq1, bI_01, eq_self, true_or, or_true, and_true, true_and, false_and, and_false, false_or, or_false, ite_true, ite_false, if_true, if_false, not_true, not_false_iff, Classical.not_not, nem, ite_not, ne_eq]
  | 3, _ =>
    obtain ⟨y, hy, hy2⟩ := downF_sz B hv
    simp (decide := true) (disch := (first | assumption | omega)) only [E_151, B_151_0, B_151_36, B_151_43, B_151_47, B_151_48, B_151_60, B_151_61, B_151_73, B_151_81, B_151_85, B_151_93, B_151_95, B_151_96, B_151_103, B_151_107, B_151_115, B_151_121, B_151_125, B_151_129, B_151_137, B_151_140, B_151_141, B_151_153, B_151_161, B_151_168, B_151_171, B_151_173, n_eqO, am_swE, m_backm0 T hn h5, m_down T hn h5, dueF, mg_i, bI_True, bI_False, p_max, p_min, p_abs, Option.bind_some, Option.bind_none, Option.toList_some, Option.toList_none, List.cons_append, List.nil_append, bI_eq0, bI_ne0, bI_ne1, bI_eq1, bI_01, eq_self, true_or, or_true, and_true, true_and, false_and, and_false, false_or, or_false, ite_true, ite_false, if_true, if_false, not_true, not_false_iff, Classical.not_not, nem, ite_not, ne_eq]
    unfold laterF
    rcases backF_sz B (Or.inl rfl) hf (e := n - 1) with z | ⟨x, z, hx⟩
    · simp (decide := true) (disch := (first | assumption | omega)) only [z, bI_True, bI_False, p_max, p_min, p_abs, Option.bind_some, Option.bind_none, Option.toList_some, Option.toList_none, List.cons_append, List.nil_append, bI_eq0, bI_ne0, bI_ne1, bI_eq1, bI_01, eq_self, true_or, or_true, and_true, true_and, false_and, and_false, false_or, or_false, ite_true, ite_false, if_true, if_false, not_true, not_false_iff, Classical.not_not, nem, ite_not, ne_eq]
    · simp (decide := true) (disch := (first | assumption | omega)) only [z, if_neg (nI_ne_m1 (show x < 2147483648 by omega)), hy, show (2 : Int32) = nI 2 from rfl, n_mul, n_add, bI_True, bI_False, p_max, p_min, p_abs, Option.bind_some, Option.bind_none, Option.toList_some, Option.toList_none, List.cons_append, List.nil_append, bI_eq0, bI_ne0, bI_ne1, bI_eq1, bI_01, eq_self, true_or, or_true, and_true, true_and, false_and, and_false, false_or, or_false, ite_true, ite_false, if_true, if_false, not_true, not_false_iff, Classical.not_not, nem, ite_not, ne_eq]
      split
      · rfl
      · rename_i w
        rw [show (0 : Int32) = nI 0 from rfl, n_lt (by omega) (by omega)] at w
        rw [show x + 2 * y = 0 by omega]; rfl
  | 4, _ =>
    simp (decide := true) (disch := (first | assumption | omega)) only [E_151, B_151_0, B_151_36, B_151_43, B_151_47, B_151_48, B_151_60, B_151_61, B_151_73, B_151_81, B_151_85, B_151_93, B_151_95, B_151_96, B_151_103, B_151_107, B_151_115, B_151_121, B_151_125, B_151_129, B_151_137, B_151_140, B_151_141, B_151_153, B_151_161, B_151_168, B_151_171, B_151_173, n_eqO, am_swE, m_least0 T hn h5, m_least1 T hn h5, m_lessDown T hn h5, dueF, T.kd (n := 56) (k := 11) rfl rfl, mg_i, halfF, bI_True, bI_False, p_max, p_min, p_abs, Option.bind_some, Option.bind_none, Option.toList_some, Option.toList_none, List.cons_append, List.nil_append, bI_eq0, bI_ne0, bI_ne1, bI_eq1, bI_01, eq_self, true_or, or_true, and_true, true_and, false_and, and_false, false_or, or_false, ite_true, ite_false, if_true, if_false, not_true, not_false_iff, Classical.not_not, nem, ite_not, ne_eq]
    by_cases a : laterF (leastF (hI h 57) (fun k => hI h 58 (5 + k)) n (nI f)) (-downF (hI h 58 0) n (nI v)) = -1
    · simp (decide := true) (disch := (first | assumption | omega)) only [a, bI_True, bI_False, p_max, p_min, p_abs, Option.bind_some, Option.bind_none, Option.toList_some, Option.toList_none, List.cons_append, List.nil_append, bI_eq0, bI_ne0, bI_ne1, bI_eq1, bI_01, eq_self, true_or, or_true, and_true, true_and, false_and, and_false, false_or, or_false, ite_true, ite_false, if_true, if_false, not_true, not_false_iff, Classical.not_not, nem, ite_not, ne_eq]
    · simp (decide := true) (disch := (first | assumption | omega)) only [a, bI_True, bI_False, p_max, p_min, p_abs, Option.bind_some, Option.bind_none, Option.toList_some, Option.toList_none, List.cons_append, List.nil_append, bI_eq0, bI_ne0, bI_ne1, bI_eq1, bI_01, eq_self, true_or, or_true, and_true, true_and, false_and, and_false, false_or, or_false, ite_true, ite_false, if_true, if_false, not_true, not_false_iff, Classical.not_not, nem, ite_not, ne_eq]
  | 5, _ => simp (decide := true) (disch := (first | assumption | omega)) only [E_151, B_151_0, B_151_36, B_151_43, B_151_47, B_151_48, B_151_60, B_151_61, B_151_73, B_151_81, B_151_85, B_151_93, B_151_95, B_151_96, B_151_103, B_151_107, B_151_115, B_151_121, B_151_125, B_151_129, B_151_137, B_151_140, B_151_141, B_151_153, B_151_161, B_151_168, B_151_171, B_151_173, n_eqO, am_swE, m_backm1 T hn h5, m_back01 T hn h5, dueF, mg_ev, mg_i, bI_True, bI_False, p_max, p_min, p_abs, Option.bind_some, Option.bind_none, Option.toList_some, Option.toList_none, List.cons_append, List.nil_append, bI_eq0, bI_ne0, bI_ne1, bI_eq1, bI_01, eq_self, true_or, or_true, and_true, true_and, false_and, and_false, false_or, or_false, ite_true, ite_false, if_true, if_false, not_true, not_false_iff, Classical.not_not, nem, ite_not, ne_eq]
end DUE2
