/-! cards -/
section CARDSZ
variable {d : Nat} {h : am_H} {m m' : am_M}
theorem upm_cg {n k a : Nat} {v : Int32} (e : m' a = m a) : upm m' n k v a = upm m n k v a := funext fun j => by
  show (if _ then _ else _) = (if _ then _ else _)
  rw [e]
theorem cardF_cg (e : ∀ a, 56 ≤ a → a ≤ 88 → m' a = m a) {x y z t : Int32} : (cardF m' x y z t).1 = (cardF m x y z t).1 ∧ ∀ a, 56 ≤ a → a ≤ 88 → (cardF m' x y z t).2 a = (cardF m x y z t).2 a := by
  have e56 := e 56 (by omega) (by omega)
  unfold cardF cardM yC
  rw [e56]
  by_cases a : (0 ≤ y ∧ y ≤ m 56 4 - 1) ∧ (0 ≤ z ∧ z ≤ m 56 8 - 1)
  · rw [if_pos a, if_pos a]
    by_cases b : (0 ≤ x ∧ x ≤ 5) ∧ (0 ≤ t ∧ t ≤ 9999999)
    · rw [if_pos b, if_pos b]
      by_cases c : cl (m 56 12) = 40
      · rw [if_pos c, if_pos c]
        exact ⟨rfl, e⟩
      · rw [if_neg c, if_neg c]
        exact ⟨rfl, fun a q1 q2 => upm_cg (upm_cg (upm_cg (upm_cg (upm_cg (upm_cg (e a q1 q2))))))⟩
    · rw [if_neg b, if_neg b]
      exact ⟨rfl, e⟩
  · rw [if_neg a, if_neg a]
    exact ⟨rfl, e⟩
theorem cardF_inv (I : Inv m) {x y z t : Int32} : Inv (cardF m x y z t).2 := by
  have d2 : m 56 4 = nI (yD m) := I.2.1.1.1
  have d3 : yD m ≤ 8 := I.2.1.1.2
  have s2 : m 56 8 = nI (yS m) := I.2.2.1.1.1
  have s3 : yS m ≤ 6 := I.2.2.1.1.2
  have q3 : yC m ≤ 40 := I.2.2.2.1.1.2
  unfold cardF
  by_cases a : (0 ≤ y ∧ y ≤ m 56 4 - 1) ∧ (0 ≤ z ∧ z ≤ m 56 8 - 1)
  · rw [if_pos a]
    by_cases b : (0 ≤ x ∧ x ≤ 5) ∧ (0 ≤ t ∧ t ≤ 9999999)
    · rw [if_pos b]
      by_cases c : yC m = 40
      · rw [if_pos c]; exact I
      · rw [if_neg c]
        rcases in_IxM y (yD m) d2 (by omega) with ⟨dr, hdr, rfl⟩ | hy
        · rcases in_IxM z (yS m) s2 (by omega) with ⟨sh, hsh, rfl⟩ | hz
          · rcases in_M x 5 (M := 5) rfl (by decide) with ⟨k, hk6, rfl⟩ | hx
            · exact cardM_inv I (by omega) hk6 hdr hsh b.2
            · exact absurd b.1 hx
          · exact absurd a.2 hz
        · exact absurd a.1 hy
    · rw [if_neg b]; exact I
  · rw [if_neg a]; exact I
/-- cells that no card changes -/
theorem cardF_same {x y z t : Int32} : (∀ a, a ≠ 56 → (a < 65 ∨ 69 < a) → (cardF m x y z t).2 a = m a) ∧ ∀ f, f ≠ 12 → (cardF m x y z t).2 56 f = m 56 f := by
  unfold cardF cardM
  refine ⟨fun a q1 q2 => ?_, fun f q => ?_⟩
  · by_cases a1 : (0 ≤ y ∧ y ≤ m 56 4 - 1) ∧ (0 ≤ z ∧ z ≤ m 56 8 - 1)
    · rw [if_pos a1]
      by_cases b : (0 ≤ x ∧ x ≤ 5) ∧ (0 ≤ t ∧ t ≤ 9999999)
      · rw [if_pos b]
        by_cases c : yC m = 40
        · rw [if_pos c]
        · rw [if_neg c]
          show upm _ _ _ _ a = _
          rw [upm_ne (by omega), upm_ne (by omega), upm_ne (by omega), upm_ne (by omega), upm_ne (by omega), upm_ne (by omega)]
      · rw [if_neg b]
    · rw [if_neg a1]
  · by_cases a1 : (0 ≤ y ∧ y ≤ m 56 4 - 1) ∧ (0 ≤ z ∧ z ≤ m 56 8 - 1)
    · rw [if_pos a1]
      by_cases b : (0 ≤ x ∧ x ≤ 5) ∧ (0 ≤ t ∧ t ≤ 9999999)
      · rw [if_pos b]
        by_cases c : yC m = 40
        · rw [if_pos c]
        · rw [if_neg c]
          show upm _ _ _ _ 56 f = _
          rw [upm_eq, if_neg q, upm_ne (by omega), upm_ne (by omega), upm_ne (by omega), upm_ne (by omega), upm_ne (by omega)]
      · rw [if_neg b]
    · rw [if_neg a1]
theorem m_cardF (T : Sm h) (I : Inv (hI h)) {x y z t : Int32} : ∃ h2, Cl (d + 9) 162 [vr (some 56), vi x, vi y, vi z, vi t] h = some (some (vi (cardF (hI h) x y z t).1), h2) ∧ Fi (fun a => a = 56 ∨ (65 ≤ a ∧ a ≤ 69)) h h2 ∧ hI h2 = (cardF (hI h) x y z t).2 := by
  have d2 : hI h 56 4 = nI (yD (hI h)) := I.2.1.1.1
  have d3 : yD (hI h) ≤ 8 := I.2.1.1.2
  have s2 : hI h 56 8 = nI (yS (hI h)) := I.2.2.1.1.1
  have s3 : yS (hI h) ≤ 6 := I.2.2.1.1.2
  have q2 : hI h 56 12 = nI (yC (hI h)) := I.2.2.2.1.1.1
  have q3 : yC (hI h) ≤ 40 := I.2.2.2.1.1.2
  unfold cardF
  rcases in_IxM y (yD (hI h)) d2 (by omega) with ⟨dr, hdr, rfl⟩ | hy
  · have ry : 0 ≤ nI dr ∧ nI dr ≤ hI h 56 4 - 1 := by rw [d2]; exact of_eq_true (in_T hdr (by omega))
    have em := fun d h' => m_inT (d := d) (h := h') d2 hdr (by omega)
    rcases in_IxM z (yS (hI h)) s2 (by omega) with ⟨sh, hsh, rfl⟩ | hz
    · have rz : 0 ≤ nI sh ∧ nI sh ≤ hI h 56 8 - 1 := by rw [s2]; exact of_eq_true (in_T hsh (by omega))
      have em2 := fun d h' (T' : Sm h') (e : hI h' 56 8 = nI (yS (hI h))) => m_isShakeT (d := d) (h := h') T' e hsh (by omega)
      rw [if_pos ⟨ry, rz⟩]
      rcases in_M x 5 (M := 5) rfl (by decide) with ⟨k, hk6, rfl⟩ | hx
      · have rx : 0 ≤ nI k ∧ nI k ≤ 5 := ⟨nI_pos' (by omega), nI_le (b := 5) hk6 (by omega)⟩
        by_cases ht : 0 ≤ t ∧ t ≤ 9999999
        · rw [if_pos ⟨rx, ht⟩]
          by_cases hf : yC (hI h) = 40
          · rw [if_pos hf]
            rw [hf] at q2
            exact ⟨h, by simp (decide := true) (disch := (first | assumption | (simp only [Sh_setI, Sm_setI, Sh_setL, Sm_setL]; assumption) | omega)) only [E_162, B_162_0, B_162_11, B_162_14, B_162_19, B_162_22, B_162_24, B_162_30, B_162_33, B_162_41, B_162_44, B_162_47, B_162_56, B_162_59, B_162_79, B_162_100, B_162_123, em, em2, s2, m_in, n_leO, n_Ole, Nat.zero_le, hk6, ht, q2, n_eqO, bI_True, bI_False, p_max, p_min, p_abs, Option.bind_some, Option.bind_none, Option.toList_some, Option.toList_none, List.cons_append, List.nil_append, bI_eq0, bI_ne0, bI_ne1, bI_eq1, bI_01, eq_self, true_or, or_true, and_true, true_and, false_and, and_false, false_or, or_false, ite_true, ite_false, if_true, if_false, not_true, not_false_iff, Classical.not_not, nem, ite_not, ne_eq], Fi.rf, rfl⟩
          · rw [if_neg hf]
            unfold cardM
            generalize yC (hI h) = n at *
            have hn : n < 40 := by omega
            refine ⟨setI (setI (setI (setI (setI (setI h 65 n (nI k)) 66 n (nI dr)) 67 n (nI sh)) 68 n t) 69 n (hI h 56 0)) 56 12 (nI (n + 1)), ?_, Fi.si (Fi.si (Fi.si (Fi.si (Fi.si (Fi.si Fi.rf (by omega)) (by omega)) (by omega)) (by omega)) (by omega)) (by omega), Eq.trans rfl rfl⟩
            simp (decide := true) (disch := (first | assumption | (simp only [Sh_setI, Sm_setI, Sh_setL, Sm_setL]; assumption) | omega)) only [E_162, B_162_0, B_162_11, B_162_14, B_162_19, B_162_22, B_162_24, B_162_30, B_162_33, B_162_41, B_162_44, B_162_47, B_162_56, B_162_59, B_162_79, B_162_100, B_162_123, em, em2, s2, m_in, n_leO, n_Ole, Nat.zero_le, hk6, ht, q2, n_eqO, hf, n_ix, n_cl, hI_ne, hI_eq, n_addO, n_subO, Nat.add_sub_cancel, bI_True, bI_False, p_max, p_min, p_abs, Option.bind_some, Option.bind_none, Option.toList_some, Option.toList_none, List.cons_append, List.nil_append, bI_eq0, bI_ne0, bI_ne1, bI_eq1, bI_01, eq_self, true_or, or_true, and_true, true_and, false_and, and_false, false_or, or_false, ite_true, ite_false, if_true, if_false, not_true, not_false_iff, Classical.not_not, nem, ite_not, ne_eq]
        · rw [if_neg (fun w => ht w.2)]
          exact ⟨h, by simp (decide := true) (disch := (first | assumption | (simp only [Sh_setI, Sm_setI, Sh_setL, Sm_setL]; assumption) | omega)) only [E_162, B_162_0, B_162_11, B_162_14, B_162_19, B_162_22, B_162_24, B_162_30, B_162_33, B_162_41, B_162_44, B_162_47, B_162_56, B_162_59, B_162_79, B_162_100, B_162_123, em, em2, s2, m_in, n_leO, n_Ole, Nat.zero_le, hk6, ht, bI_True, bI_False, p_max, p_min, p_abs, Option.bind_some, Option.bind_none, Option.toList_some, Option.toList_none, List.cons_append, List.nil_append, bI_eq0, bI_ne0, bI_ne1, bI_eq1, bI_01, eq_self, true_or, or_true, and_true, true_and, false_and, and_false, false_or, or_false, ite_true, ite_false, if_true, if_false, not_true, not_false_iff, Classical.not_not, nem, ite_not, ne_eq], Fi.rf, rfl⟩
      · rw [if_neg (fun w => hx w.1)]
        exact ⟨h, by simp (decide := true) (disch := (first | assumption | (simp only [Sh_setI, Sm_setI, Sh_setL, Sm_setL]; assumption) | omega)) only [E_162, B_162_0, B_162_11, B_162_14, B_162_19, B_162_22, B_162_24, B_162_30, B_162_33, B_162_41, B_162_44, B_162_47, B_162_56, B_162_59, B_162_79, B_162_100, B_162_123, em, em2, s2, m_in, hx, bI_True, bI_False, p_max, p_min, p_abs, Option.bind_some, Option.bind_none, Option.toList_some, Option.toList_none, List.cons_append, List.nil_append, bI_eq0, bI_ne0, bI_ne1, bI_eq1, bI_01, eq_self, true_or, or_true, and_true, true_and, false_and, and_false, false_or, or_false, ite_true, ite_false, if_true, if_false, not_true, not_false_iff, Classical.not_not, nem, ite_not, ne_eq], Fi.rf, rfl⟩
    · rw [if_neg (fun w => hz w.2)]
      exact ⟨h, by simp (decide := true) (disch := (first | assumption | (simp only [Sh_setI, Sm_setI, Sh_setL, Sm_setL]; assumption) | omega)) only [E_162, B_162_0, B_162_11, B_162_14, B_162_19, B_162_22, B_162_24, B_162_30, B_162_33, B_162_41, B_162_44, B_162_47, B_162_56, B_162_59, B_162_79, B_162_100, B_162_123, em, m_isShake T, hz, bI_True, bI_False, p_max, p_min, p_abs, Option.bind_some, Option.bind_none, Option.toList_some, Option.toList_none, List.cons_append, List.nil_append, bI_eq0, bI_ne0, bI_ne1, bI_eq1, bI_01, eq_self, true_or, or_true, and_true, true_and, false_and, and_false, false_or, or_false, ite_true, ite_false, if_true, if_false, not_true, not_false_iff, Classical.not_not, nem, ite_not, ne_eq], Fi.rf, rfl⟩
  · rw [if_neg (fun w => hy w.1)]
    exact ⟨h, by simp (decide := true) (disch := (first | assumption | (simp only [Sh_setI, Sm_setI, Sh_setL, Sm_setL]; assumption) | omega)) only [E_162, B_162_0, B_162_11, B_162_14, B_162_19, B_162_22, B_162_24, B_162_30, B_162_33, B_162_41, B_162_44, B_162_47, B_162_56, B_162_59, B_162_79, B_162_100, B_162_123, m_in, hy, bI_True, bI_False, p_max, p_min, p_abs, Option.bind_some, Option.bind_none, Option.toList_some, Option.toList_none, List.cons_append, List.nil_append, bI_eq0, bI_ne0, bI_ne1, bI_eq1, bI_01, eq_self, true_or, or_true, and_true, true_and, false_and, and_false, false_or, or_false, ite_true, ite_false, if_true, if_false, not_true, not_false_iff, Classical.not_not, nem, ite_not, ne_eq], Fi.rf, rfl⟩
end CARDSZ
