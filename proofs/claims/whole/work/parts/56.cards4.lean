/-! cards, the loops -/
def cardsG (w : Nat → Int32) (f z : Nat) : Nat → Nat → Nat → am_M → Int32 × am_M
  | 0, _, a, m => (nI a, m)
  | j + 1, k, a, m => if f + 4 * k + 4 ≤ z then cardsG w f z j (k + 1) (if 0 ≤ (cardF m (w (f + 4 * k)) (w (f + 4 * k + 1)) (w (f + 4 * k + 2)) (w (f + 4 * k + 3))).1 then a + 1 else a) (cardF m (w (f + 4 * k)) (w (f + 4 * k + 1)) (w (f + 4 * k + 2)) (w (f + 4 * k + 3))).2 else (-12, m)
theorem cardsG_cg {w : Nat → Int32} {f z : Nat} : ∀ (j k a : Nat) (m m' : am_M), (∀ a, 56 ≤ a → a ≤ 88 → m' a = m a) → (cardsG w f z j k a m').1 = (cardsG w f z j k a m).1 ∧ ∀ q, 56 ≤ q → q ≤ 88 → (cardsG w f z j k a m').2 q = (cardsG w f z j k a m).2 q := by
  intro j
  induction j with
  | zero => exact fun k a m m' e => ⟨rfl, e⟩
  | succ j ih =>
    intro k a m m' e
    rw [cardsG, cardsG]
    by_cases g : f + 4 * k + 4 ≤ z
    · rw [if_pos g, if_pos g]
      obtain ⟨c1, c2⟩ := cardF_cg e (x := w (f + 4 * k)) (y := w (f + 4 * k + 1)) (z := w (f + 4 * k + 2)) (t := w (f + 4 * k + 3))
      rw [c1]
      exact ih _ _ _ _ c2
    · rw [if_neg g, if_neg g]
      exact ⟨rfl, e⟩
theorem cardsG_inv {w : Nat → Int32} {f z : Nat} : ∀ (j k a : Nat) (m : am_M), Inv m → Inv (cardsG w f z j k a m).2 := by
  intro j
  induction j with
  | zero => exact fun k a m e => e
  | succ j ih =>
    intro k a m e
    rw [cardsG]
    by_cases g : f + 4 * k + 4 ≤ z
    · rw [if_pos g]
      exact ih _ _ _ (cardF_inv e)
    · rw [if_neg g]
      exact e
def Gt (j : Nat) (h h1 : am_H) : Prop := hk h ≤ hk h1 ∧ hk h1 ≤ hk h + j ∧ hs h1 ≤ hs h + 9 * j ∧ (∀ a, a ≤ 88 → a ≠ 1 → hI h1 a = hI h a) ∧ hkd h1 0 = hkd h 0 ∧ hln h1 0 = hln h 0 ∧ Sh h1 ∧ Sm h1 ∧ Lt h1
theorem sub4_le {z : Nat} (hz : z ≤ 40) : nI z - 4 ≤ 40 := by
  by_cases g : 4 ≤ z
  · show nI z - nI 4 ≤ nI 40
    rw [n_sub g, n_le (by omega) (by omega)]; omega
  · match z, g with
    | 0, _ => decide
    | 1, _ => decide
    | 2, _ => decide
    | 3, _ => decide
    | z + 4, g => omega
theorem le_sub4 {i z : Nat} (hi : i < 1000) (hz : z ≤ 40) : (nI i ≤ nI z - 4) = (i + 4 ≤ z) := by
  by_cases g : 4 ≤ z
  · show (nI i ≤ nI z - nI 4) = _
    rw [n_sub g, n_le (by omega) (by omega)]
    apply propext; omega
  · refine propext ⟨fun q => ?_, fun q => by omega⟩
    have u : nI z - 4 < 0 := by
      match z, g with
      | 0, _ => decide
      | 1, _ => decide
      | 2, _ => decide
      | 3, _ => decide
      | z + 4, g => omega
    rw [← nt_lt] at u
    exact absurd (Int32.le_trans (nI_pos' (by omega)) q) u
theorem hold4 {i z : Nat} (hi : i < 1000) (hz : z ≤ 40) : (0 ≤ nI i ∧ 4 ≤ nI z ∧ nI i ≤ nI z - 4) = (i + 4 ≤ z) := by
  rw [le_sub4 hi hz]
  show (nI 0 ≤ nI i ∧ nI 4 ≤ nI z ∧ _) = _
  rw [n_le (by omega) (by omega), n_le (by omega) (by omega)]
  apply propext
  refine ⟨fun q => q.2.2, fun q => ⟨by omega, by omega, q⟩⟩
section CARDSL
variable {d : Nat} {h : am_H} {m : am_M}
theorem c_cards {s z f N : Nat} (hs : s < 4) (w : Nat → Int32) (hf : f ≤ 40) (hz : z ≤ 40) (hN : N ≤ 10) {x1 x2 : Int32} : ∀ (j k a : Nat) (h : am_H) (m : am_M), k + j = N → a ≤ k → Sh h → Sm h → hk h + j < 900000 → Inv m → CR m h → Lt h → hI h (45 + 2 * s) 2 = nI z → (∀ q, q < z → hI h (46 + 2 * s) q = w q) → ∀ (a8 a9 : am_V), ∃ h1, Ev (d + 13) 141 62 [vr (some 1), vi x1, vi x2, vi (nI f), vi (nI N), vr (some (45 + 2 * s)), vi (nI a), vi (nI k), a8, a9] [] h = some (some (vi (cardsG w f z j k a m).1), h1) ∧ CR (cardsG w f z j k a m).2 h1 ∧ Gt j h h1 := by
  intro j
  induction j with
  | zero =>
    intro k a h m e _ S T _ _ C L _ _ a8 a9
    refine ⟨h, ?_, C, Nat.le_refl _, Nat.le_refl _, Nat.le_refl _, fun _ _ _ => rfl, rfl, rfl, S, T, L⟩
    rw [cardsG, B_141_62]
    simp (decide := true) (disch := (first | assumption | (simp only [Sh_setI, Sm_setI, Sh_setL, Sm_setL]; assumption) | omega)) only [n_le, show N ≤ k by omega, B_141_140, bI_True, bI_False, p_max, p_min, p_abs, Option.bind_some, Option.bind_none, Option.toList_some, Option.toList_none, List.cons_append, List.nil_append, bI_eq0, bI_ne0, bI_ne1, bI_eq1, bI_01, eq_self, true_or, or_true, and_true, true_and, false_and, and_false, false_or, or_false, ite_true, ite_false, if_true, if_false, not_true, not_false_iff, Classical.not_not, nem, ite_not, ne_eq]
  | succ j ih =>
    intro k a h m e ha S T hb I C L q1 q2 a8 a9
    have h8 : 88 ≤ hk h := T.1
    obtain ⟨p1, p2, p3, p4, p5⟩ := sh_s S hs
    have hh := hold4 (i := f + 4 * k) (z := z) (by omega) hz
    rw [cardsG]
    by_cases g : f + 4 * k + 4 ≤ z
    · rw [if_pos g]
      obtain ⟨h1, e1, C1, I1, K1, st⟩ := c_cardF (d := d + 3) S h8 (by omega) I C (x := w (f + 4 * k)) (y := w (f + 4 * k + 1)) (z := w (f + 4 * k + 2)) (t := w (f + 4 * k + 3))
      generalize cardF m (w (f + 4 * k)) (w (f + 4 * k + 1)) (w (f + 4 * k + 2)) (w (f + 4 * k + 3)) = r at *
      have G1 : Gt 1 h h1 := by
        rcases K1 with rfl | K
        · exact ⟨Nat.le_refl _, Nat.le_succ _, Nat.le_add_right _ _, fun _ _ _ => rfl, rfl, rfl, S, T, L⟩
        · exact ⟨by rw [K.1]; omega, Nat.le_of_eq K.1, K.2.1, st, (K.2.2.1 0 (by omega)).1, (K.2.2.1 0 (by omega)).2.1, K.sh S h8 (by omega) (by omega), K.sm T (by omega), K.lt L h8 (by omega)⟩
      obtain ⟨g1, g2, g3, g4, g5, g6, g7, g8, g9⟩ := G1
      have step : Ev (d + 13) 141 62 [vr (some 1), vi x1, vi x2, vi (nI f), vi (nI N), vr (some (45 + 2 * s)), vi (nI a), vi (nI k), a8, a9] [] h = Ev (d + 13) 141 62 [vr (some 1), vi x1, vi x2, vi (nI f), vi (nI N), vr (some (45 + 2 * s)), vi (nI (if 0 ≤ r.1 then a + 1 else a)), vi (nI (k + 1)), vi (nI (f + 4 * k)), vr (some (46 + 2 * s))] [] h1 := by
        rw [B_141_62]
        simp (decide := true) (disch := (first | assumption | (simp only [Sh_setI, Sm_setI, Sh_setL, Sm_setL]; assumption) | omega)) only [n_le, show ¬ N ≤ k by omega, B_141_69, p2, c_holds, q1, n_Omul, n_add, hh, g, B_141_85, B_141_91, p3, p4, p5, n_addO, n_ix, n_cl, q2, e1, B_141_128, bI_True, bI_False, p_max, p_min, p_abs, Option.bind_some, Option.bind_none, Option.toList_some, Option.toList_none, List.cons_append, List.nil_append, bI_eq0, bI_ne0, bI_ne1, bI_eq1, bI_01, eq_self, true_or, or_true, and_true, true_and, false_and, and_false, false_or, or_false, ite_true, ite_false, if_true, if_false, not_true, not_false_iff, Classical.not_not, nem, ite_not, ne_eq]
        by_cases p : 0 ≤ r.1
        · have p' : ¬ r.1 < 0 := by rw [nt_le]; exact p
          simp (decide := true) (disch := (first | assumption | (simp only [Sh_setI, Sm_setI, Sh_setL, Sm_setL]; assumption) | omega)) only [p', p, B_141_131, B_141_134, n_addO, bI_True, bI_False, p_max, p_min, p_abs, Option.bind_some, Option.bind_none, Option.toList_some, Option.toList_none, List.cons_append, List.nil_append, bI_eq0, bI_ne0, bI_ne1, bI_eq1, bI_01, eq_self, true_or, or_true, and_true, true_and, false_and, and_false, false_or, or_false, ite_true, ite_false, if_true, if_false, not_true, not_false_iff, Classical.not_not, nem, ite_not, ne_eq]
        · have p' : r.1 < 0 := by rw [← nt_lt]; exact p
          simp (decide := true) (disch := (first | assumption | (simp only [Sh_setI, Sm_setI, Sh_setL, Sm_setL]; assumption) | omega)) only [p', p, B_141_134, n_addO, bI_True, bI_False, p_max, p_min, p_abs, Option.bind_some, Option.bind_none, Option.toList_some, Option.toList_none, List.cons_append, List.nil_append, bI_eq0, bI_ne0, bI_ne1, bI_eq1, bI_01, eq_self, true_or, or_true, and_true, true_and, false_and, and_false, false_or, or_false, ite_true, ite_false, if_true, if_false, not_true, not_false_iff, Classical.not_not, nem, ite_not, ne_eq]
      obtain ⟨h2, e2, C2, g1', g2', g3', g4', g5', g6', g7', g8', g9'⟩ := ih (k + 1) (if 0 ≤ r.1 then a + 1 else a) h1 r.2 (by omega) (by split <;> omega) g7 g8 (by omega) I1 C1 g9 (by rw [g4 _ (by omega) (by omega)]; exact q1) (fun q hq => by rw [g4 _ (by omega) (by omega)]; exact q2 q hq) (vi (nI (f + 4 * k))) (vr (some (46 + 2 * s)))
      exact ⟨h2, by rw [step]; exact e2, C2, by omega, by omega, by omega, fun a qa qb => (g4' a qa qb).trans (g4 a qa qb), g5'.trans g5, g6'.trans g6, g7', g8', g9'⟩
    · rw [if_neg g]
      refine ⟨h, ?_, C, Nat.le_refl _, Nat.le_add_right _ _, Nat.le_add_right _ _, fun _ _ _ => rfl, rfl, rfl, S, T, L⟩
      rw [B_141_62]
      simp (decide := true) (disch := (first | assumption | (simp only [Sh_setI, Sm_setI, Sh_setL, Sm_setL]; assumption) | omega)) only [n_le, show ¬ N ≤ k by omega, B_141_69, p2, c_holds, q1, n_Omul, n_add, hh, g, B_141_85, B_141_88, bI_True, bI_False, p_max, p_min, p_abs, Option.bind_some, Option.bind_none, Option.toList_some, Option.toList_none, List.cons_append, List.nil_append, bI_eq0, bI_ne0, bI_ne1, bI_eq1, bI_01, eq_self, true_or, or_true, and_true, true_and, false_and, and_false, false_or, or_false, ite_true, ite_false, if_true, if_false, not_true, not_false_iff, Classical.not_not, nem, ite_not, ne_eq]
theorem m_cards {s z f N : Nat} (hs : s < 4) (w : Nat → Int32) (hf : f ≤ 40) (hz : z ≤ 40) (hN : N ≤ 10) {x2 : Int32} : ∀ (j k a : Nat) (h : am_H), k + j = N → a ≤ k → Sm h → Inv (hI h) → hI h 83 s = nI z → (∀ q, q < z → hI h 84 (40 * s + q) = w q) → ∀ (a7 a8 : am_V), ∃ h2, Ev (d + 13) 215 64 [vr (some 56), vi (nI s), vi x2, vi (nI f), vi (nI N), vi (nI a), vi (nI k), a7, a8] [] h = some (some (vi (cardsG w f z j k a (hI h)).1), h2) ∧ Fi (fun a => a = 56 ∨ (65 ≤ a ∧ a ≤ 69)) h h2 ∧ hI h2 = (cardsG w f z j k a (hI h)).2 := by
  intro j
  induction j with
  | zero =>
    intro k a h e _ T I _ _ a7 a8
    refine ⟨h, ?_, Fi.rf, rfl⟩
    rw [cardsG, B_215_64]
    simp (decide := true) (disch := (first | assumption | (simp only [Sh_setI, Sm_setI, Sh_setL, Sm_setL]; assumption) | omega)) only [n_le, show N ≤ k by omega, B_215_171, bI_True, bI_False, p_max, p_min, p_abs, Option.bind_some, Option.bind_none, Option.toList_some, Option.toList_none, List.cons_append, List.nil_append, bI_eq0, bI_ne0, bI_ne1, bI_eq1, bI_01, eq_self, true_or, or_true, and_true, true_and, false_and, and_false, false_or, or_false, ite_true, ite_false, if_true, if_false, not_true, not_false_iff, Classical.not_not, nem, ite_not, ne_eq]
  | succ j ih =>
    intro k a h e ha T I q1 q2 a7 a8
    rw [cardsG]
    by_cases g : f + 4 * k + 4 ≤ z
    · rw [if_pos g]
      obtain ⟨h1, e1, F1, r2⟩ := m_cardF (d := d + 3) T I (x := w (f + 4 * k)) (y := w (f + 4 * k + 1)) (z := w (f + 4 * k + 2)) (t := w (f + 4 * k + 3))
      have I1 := cardF_inv I (x := w (f + 4 * k)) (y := w (f + 4 * k + 1)) (z := w (f + 4 * k + 2)) (t := w (f + 4 * k + 3))
      generalize cardF (hI h) (w (f + 4 * k)) (w (f + 4 * k + 1)) (w (f + 4 * k + 2)) (w (f + 4 * k + 3)) = r at *
      have qa : 40 * s + (f + 4 * k) + 1 = 40 * s + (f + 4 * k + 1) := rfl
      have qb : 40 * s + (f + 4 * k) + 2 = 40 * s + (f + 4 * k + 2) := rfl
      have qc : 40 * s + (f + 4 * k) + 3 = 40 * s + (f + 4 * k + 3) := rfl
      have step : Ev (d + 13) 215 64 [vr (some 56), vi (nI s), vi x2, vi (nI f), vi (nI N), vi (nI a), vi (nI k), a7, a8] [] h = Ev (d + 13) 215 64 [vr (some 56), vi (nI s), vi x2, vi (nI f), vi (nI N), vi (nI (if 0 ≤ r.1 then a + 1 else a)), vi (nI (k + 1)), vi (nI (f + 4 * k)), vi (nI (40 * s + (f + 4 * k)))] [] h1 := by
        rw [B_215_64]
        simp (decide := true) (disch := (first | assumption | (simp only [Sh_setI, Sm_setI, Sh_setL, Sm_setL]; assumption) | omega)) only [n_le, show ¬ N ≤ k by omega, B_215_71, n_ltO, Nat.not_lt_zero, n_Omul, n_add, B_215_83, n_lt, show ¬ f + 4 * k < f by omega, B_215_89, n_ix, n_cl, q1, le_sub4, g, B_215_105, n_addO, bI_True, bI_False, p_max, p_min, p_abs, Option.bind_some, Option.bind_none, Option.toList_some, Option.toList_none, List.cons_append, List.nil_append, bI_eq0, bI_ne0, bI_ne1, bI_eq1, bI_01, eq_self, true_or, or_true, and_true, true_and, false_and, and_false, false_or, or_false, ite_true, ite_false, if_true, if_false, not_true, not_false_iff, Classical.not_not, nem, ite_not, ne_eq]
        rw [qa, qb, qc]
        simp (decide := true) (disch := (first | assumption | (simp only [Sh_setI, Sm_setI, Sh_setL, Sm_setL]; assumption) | omega)) only [q2, e1, B_215_154, bI_True, bI_False, p_max, p_min, p_abs, Option.bind_some, Option.bind_none, Option.toList_some, Option.toList_none, List.cons_append, List.nil_append, bI_eq0, bI_ne0, bI_ne1, bI_eq1, bI_01, eq_self, true_or, or_true, and_true, true_and, false_and, and_false, false_or, or_false, ite_true, ite_false, if_true, if_false, not_true, not_false_iff, Classical.not_not, nem, ite_not, ne_eq]
        by_cases p : 0 ≤ r.1
        · have p' : ¬ r.1 < 0 := by rw [nt_le]; exact p
          simp (decide := true) (disch := (first | assumption | (simp only [Sh_setI, Sm_setI, Sh_setL, Sm_setL]; assumption) | omega)) only [p', p, B_215_157, B_215_162, n_addO, bI_True, bI_False, p_max, p_min, p_abs, Option.bind_some, Option.bind_none, Option.toList_some, Option.toList_none, List.cons_append, List.nil_append, bI_eq0, bI_ne0, bI_ne1, bI_eq1, bI_01, eq_self, true_or, or_true, and_true, true_and, false_and, and_false, false_or, or_false, ite_true, ite_false, if_true, if_false, not_true, not_false_iff, Classical.not_not, nem, ite_not, ne_eq]
        · have p' : r.1 < 0 := by rw [← nt_lt]; exact p
          simp (decide := true) (disch := (first | assumption | (simp only [Sh_setI, Sm_setI, Sh_setL, Sm_setL]; assumption) | omega)) only [p', p, B_215_161, B_215_162, n_addO, Nat.add_zero, bI_True, bI_False, p_max, p_min, p_abs, Option.bind_some, Option.bind_none, Option.toList_some, Option.toList_none, List.cons_append, List.nil_append, bI_eq0, bI_ne0, bI_ne1, bI_eq1, bI_01, eq_self, true_or, or_true, and_true, true_and, false_and, and_false, false_or, or_false, ite_true, ite_false, if_true, if_false, not_true, not_false_iff, Classical.not_not, nem, ite_not, ne_eq]
      obtain ⟨h2, e2, F2, r3⟩ := ih (k + 1) (if 0 ≤ r.1 then a + 1 else a) h1 (by omega) (by split <;> omega) (F1.sm T) (by rw [r2]; exact I1) (by rw [F1.2.2.2.2.2 83 (by omega)]; exact q1) (fun q hq => by rw [F1.2.2.2.2.2 84 (by omega)]; exact q2 q hq) (vi (nI (f + 4 * k))) (vi (nI (40 * s + (f + 4 * k))))
      rw [r2] at e2 r3
      exact ⟨h2, by rw [step]; exact e2, F1.tr F2, r3⟩
    · rw [if_neg g]
      refine ⟨h, ?_, Fi.rf, rfl⟩
      rw [B_215_64]
      simp (decide := true) (disch := (first | assumption | (simp only [Sh_setI, Sm_setI, Sh_setL, Sm_setL]; assumption) | omega)) only [n_le, show ¬ N ≤ k by omega, B_215_71, n_ltO, Nat.not_lt_zero, n_Omul, n_add, B_215_83, n_lt, show ¬ f + 4 * k < f by omega, B_215_89, n_ix, n_cl, q1, le_sub4, g, B_215_102, bI_True, bI_False, p_max, p_min, p_abs, Option.bind_some, Option.bind_none, Option.toList_some, Option.toList_none, List.cons_append, List.nil_append, bI_eq0, bI_ne0, bI_ne1, bI_eq1, bI_01, eq_self, true_or, or_true, and_true, true_and, false_and, and_false, false_or, or_false, ite_true, ite_false, if_true, if_false, not_true, not_false_iff, Classical.not_not, nem, ite_not, ne_eq]
theorem s_cards (R : Rel h) (hb : hk h < 800000) {x y f n : Int32} : Stq (d + 14) 141 215 [vi x, vi y, vi f, vi n] h := by
  obtain ⟨S, T, I, C, L⟩ := id R
  rcases in_M x 3 (M := 3) rfl (by decide) with ⟨s, hs3, rfl⟩ | hx
  · have hs4 : s < 4 := by omega
    obtain ⟨p1, p2, p3, p4, p5⟩ := sh_s S hs4
    obtain ⟨a1, a2, a3⟩ := C.2.2.2.2.2.2.1 s hs4
    obtain ⟨i1, i2, i3⟩ := I.2.2.2.2.2.2 s hs4
    have z1 : hI h 83 s = nI (cl (hI h 83 s)) := i2.1
    have z2 := i2.2
    generalize hZ : cl (hI h 83 s) = z at z1 z2 a3
    by_cases hy : 0 ≤ y ∧ y ≤ 2
    · rcases in_M n 10 (M := 10) rfl (by decide) with ⟨N, hN, rfl⟩ | hn
      · by_cases hm : hI h 82 s = -1
        · exact stp_same (v := vi (-11)) R (by simp (decide := true) (disch := (first | assumption | (simp only [Sh_setI, Sm_setI, Sh_setL, Sm_setL]; assumption) | omega)) only [E_141, B_141_0, B_141_5, B_141_12, B_141_16, B_141_19, B_141_27, B_141_33, B_141_38, B_141_41, c_sheetAt S hs4, reduceCtorEq, c_sheetSort, hy, c_isIn, n_leO, n_Ole, Nat.zero_le, hN, p2, c_isMissing p2, a1, hm, bI_True, bI_False, p_max, p_min, p_abs, Option.bind_some, Option.bind_none, Option.toList_some, Option.toList_none, List.cons_append, List.nil_append, bI_eq0, bI_ne0, bI_ne1, bI_eq1, bI_01, eq_self, true_or, or_true, and_true, true_and, false_and, and_false, false_or, or_false, ite_true, ite_false, if_true, if_false, not_true, not_false_iff, Classical.not_not, nem, ite_not, ne_eq]) (by simp (decide := true) (disch := (first | assumption | (simp only [Sh_setI, Sm_setI, Sh_setL, Sm_setL]; assumption) | omega)) only [E_215, B_215_0, B_215_6, B_215_9, B_215_15, B_215_18, B_215_26, B_215_32, B_215_42, m_in, n_leO, n_Ole, Nat.zero_le, hs3, hy, hN, n_ix, n_cl, hm, bI_True, bI_False, p_max, p_min, p_abs, Option.bind_some, Option.bind_none, Option.toList_some, Option.toList_none, List.cons_append, List.nil_append, bI_eq0, bI_ne0, bI_ne1, bI_eq1, bI_01, eq_self, true_or, or_true, and_true, true_and, false_and, and_false, false_or, or_false, ite_true, ite_false, if_true, if_false, not_true, not_false_iff, Classical.not_not, nem, ite_not, ne_eq])
        · by_cases hq : hI h 82 s = y
          · have q1 : hI h (45 + 2 * s) 2 = nI z := a2.trans z1
            have hyq : ¬ y = -1 := by rw [← hq]; exact hm
            have eC : Cl (d + 14) 141 [vr (some 1), vi (nI s), vi y, vi f, vi (nI N)] h = Ev (d + 14) 141 62 [vr (some 1), vi (nI s), vi y, vi f, vi (nI N), vr (some (45 + 2 * s)), vi 0, vi 0, vu, vu] [] h := by
              simp (decide := true) (disch := (first | assumption | (simp only [Sh_setI, Sm_setI, Sh_setL, Sm_setL]; assumption) | omega)) only [E_141, B_141_0, B_141_5, B_141_12, B_141_16, B_141_19, B_141_27, B_141_33, B_141_38, B_141_44, B_141_56, c_sheetAt S hs4, reduceCtorEq, c_sheetSort, hy, c_isIn, n_leO, n_Ole, Nat.zero_le, hN, p2, c_isMissing p2, a1, hm, hq, hyq, bI_True, bI_False, p_max, p_min, p_abs, Option.bind_some, Option.bind_none, Option.toList_some, Option.toList_none, List.cons_append, List.nil_append, bI_eq0, bI_ne0, bI_ne1, bI_eq1, bI_01, eq_self, true_or, or_true, and_true, true_and, false_and, and_false, false_or, or_false, ite_true, ite_false, if_true, if_false, not_true, not_false_iff, Classical.not_not, nem, ite_not, ne_eq]
            have eM : ∀ h', Sm h' → hI h' 82 s = hI h 82 s → Cl (d + 14) 215 [vr (some 56), vi (nI s), vi y, vi f, vi (nI N)] h' = Ev (d + 14) 215 64 [vr (some 56), vi (nI s), vi y, vi f, vi (nI N), vi 0, vi 0, vu, vu] [] h' := by
              intro h' T' e
              simp (decide := true) (disch := (first | assumption | (simp only [Sh_setI, Sm_setI, Sh_setL, Sm_setL]; assumption) | omega)) only [E_215, B_215_0, B_215_6, B_215_9, B_215_15, B_215_18, B_215_26, B_215_32, B_215_45, B_215_58, m_in, n_leO, n_Ole, Nat.zero_le, hs3, hy, hN, n_ix, n_cl, e, hm, hq, hyq, bI_True, bI_False, p_max, p_min, p_abs, Option.bind_some, Option.bind_none, Option.toList_some, Option.toList_none, List.cons_append, List.nil_append, bI_eq0, bI_ne0, bI_ne1, bI_eq1, bI_01, eq_self, true_or, or_true, and_true, true_and, false_and, and_false, false_or, or_false, ite_true, ite_false, if_true, if_false, not_true, not_false_iff, Classical.not_not, nem, ite_not, ne_eq]
            by_cases hN0 : N = 0
            · subst hN0
              exact stp_same (v := vi 0) R (by rw [eC, B_141_62]; simp (decide := true) (disch := (first | assumption | (simp only [Sh_setI, Sm_setI, Sh_setL, Sm_setL]; assumption) | omega)) only [n_leO, B_141_140, bI_True, bI_False, p_max, p_min, p_abs, Option.bind_some, Option.bind_none, Option.toList_some, Option.toList_none, List.cons_append, List.nil_append, bI_eq0, bI_ne0, bI_ne1, bI_eq1, bI_01, eq_self, true_or, or_true, and_true, true_and, false_and, and_false, false_or, or_false, ite_true, ite_false, if_true, if_false, not_true, not_false_iff, Classical.not_not, nem, ite_not, ne_eq]) (by rw [eM h T rfl, B_215_64]; simp (decide := true) (disch := (first | assumption | (simp only [Sh_setI, Sm_setI, Sh_setL, Sm_setL]; assumption) | omega)) only [n_leO, B_215_171, bI_True, bI_False, p_max, p_min, p_abs, Option.bind_some, Option.bind_none, Option.toList_some, Option.toList_none, List.cons_append, List.nil_append, bI_eq0, bI_ne0, bI_ne1, bI_eq1, bI_01, eq_self, true_or, or_true, and_true, true_and, false_and, and_false, false_or, or_false, ite_true, ite_false, if_true, if_false, not_true, not_false_iff, Classical.not_not, nem, ite_not, ne_eq])
            · rcases in_M f 40 (M := 40) rfl (by decide) with ⟨f, hf, rfl⟩ | hf
              · obtain ⟨h1, e1, C1, g1, g2, g3, g4, g5, g6, S1, T1, L1⟩ := c_cards (d := d + 1) (s := s) (z := z) (f := f) (N := N) hs4 (fun q => hI h 84 (40 * s + q)) hf z2 hN (x1 := nI s) (x2 := y) N 0 0 h (hI h) (by omega) (by omega) S T (by omega) I C L q1 (fun q hq => a3 hm q hq) vu vu
                have ag : ∀ a, 56 ≤ a → a ≤ 88 → hI h1 a = hI h a := fun a qa qb => g4 a qb (by omega)
                have I1 : Inv (hI h1) := Inv_cg (fun n q1 q2 => ag n (by omega) (by omega)) (fun f _ => by rw [ag 56 (by omega) (by omega)]) I
                obtain ⟨h2, e2, F2, r2⟩ := m_cards (d := d + 1) (s := s) (z := z) (f := f) (N := N) hs4 (fun q => hI h 84 (40 * s + q)) hf z2 hN (x2 := y) N 0 0 h1 (by omega) (by omega) T1 I1 (by rw [ag 83 (by omega) (by omega)]; exact z1) (fun q hq => by rw [ag 84 (by omega) (by omega)]) vu vu
                obtain ⟨v1, v2⟩ := cardsG_cg (w := fun q => hI h 84 (40 * s + q)) (f := f) (z := z) N 0 0 (hI h) (hI h1) ag
                have I2 := cardsG_inv (w := fun q => hI h 84 (40 * s + q)) (f := f) (z := z) N 0 0 (hI h1) I1
                rw [v1] at e2
                generalize cardsG (fun q => hI h 84 (40 * s + q)) f z N 0 0 (hI h) = r at *
                generalize cardsG (fun q => hI h 84 (40 * s + q)) f z N 0 0 (hI h1) = r' at *
                have K2 : Kd 999 h1 h2 := F2.kd (fun n q => by omega)
                have G2 : Gr h1 h2 := K2.gr L1 (by decide)
                refine ⟨vi r.1, h1, h2, by rw [eC]; exact e1, by rw [eM h1 T1 (by rw [ag 82 (by omega) (by omega)])]; exact e2, ⟨F2.sh S1, F2.sm T1, by rw [r2]; exact I2, ?_, K2.lt S1 L1 (by decide)⟩, ?_⟩
                · rw [r2]
                  exact CR_cg (fun n q1 q2 => v2 n (by omega) (by omega)) (fun f _ => by rw [v2 56 (by omega) (by omega)]) ((F2.kq (fun n q => by omega)).cr S1 C1)
                · have k1 : hk h2 = hk h1 := congrArg (fun q => q.1) F2.1
                  have k2 : hs h2 = hs h1 := congrArg (fun q => q.2) F2.1
                  exact ⟨G2.1.trans (g4 0 (by omega) (by omega)), G2.2.1.trans g5, G2.2.2.1.trans g6, by omega, by omega⟩
              · have hno : ¬ (0 ≤ f ∧ 4 ≤ nI z ∧ f ≤ nI z - 4) := fun w => hf ⟨w.1, Int32.le_trans w.2.2 (sub4_le z2)⟩
                refine stp_same (v := vi (-12)) R (by rw [eC, B_141_62]; simp (decide := true) (disch := (first | assumption | (simp only [Sh_setI, Sm_setI, Sh_setL, Sm_setL]; assumption) | omega)) only [n_leO, hN0, Nat.le_zero, B_141_69, p2, c_holds p2, q1, Int32.mul_zero, Int32.add_zero, hno, B_141_85, B_141_88, bI_True, bI_False, p_max, p_min, p_abs, Option.bind_some, Option.bind_none, Option.toList_some, Option.toList_none, List.cons_append, List.nil_append, bI_eq0, bI_ne0, bI_ne1, bI_eq1, bI_01, eq_self, true_or, or_true, and_true, true_and, false_and, and_false, false_or, or_false, ite_true, ite_false, if_true, if_false, not_true, not_false_iff, Classical.not_not, nem, ite_not, ne_eq]) ?_
                rw [eM h T rfl, B_215_64]
                by_cases n0 : f < 0
                · simp (decide := true) (disch := (first | assumption | (simp only [Sh_setI, Sm_setI, Sh_setL, Sm_setL]; assumption) | omega)) only [n_leO, hN0, Nat.le_zero, B_215_71, n0, B_215_102, bI_True, bI_False, p_max, p_min, p_abs, Option.bind_some, Option.bind_none, Option.toList_some, Option.toList_none, List.cons_append, List.nil_append, bI_eq0, bI_ne0, bI_ne1, bI_eq1, bI_01, eq_self, true_or, or_true, and_true, true_and, false_and, and_false, false_or, or_false, ite_true, ite_false, if_true, if_false, not_true, not_false_iff, Classical.not_not, nem, ite_not, ne_eq]
                · have n4 : ¬ f ≤ nI z - 4 := fun w => hf ⟨by rw [← nt_le]; exact n0, Int32.le_trans w (sub4_le z2)⟩
                  simp (decide := true) (disch := (first | assumption | (simp only [Sh_setI, Sm_setI, Sh_setL, Sm_setL]; assumption) | omega)) only [n_leO, hN0, Nat.le_zero, B_215_71, n0, Int32.mul_zero, Int32.add_zero, B_215_83, Int32.lt_irrefl, B_215_89, n_ix, n_cl, z1, n4, B_215_102, bI_True, bI_False, p_max, p_min, p_abs, Option.bind_some, Option.bind_none, Option.toList_some, Option.toList_none, List.cons_append, List.nil_append, bI_eq0, bI_ne0, bI_ne1, bI_eq1, bI_01, eq_self, true_or, or_true, and_true, true_and, false_and, and_false, false_or, or_false, ite_true, ite_false, if_true, if_false, not_true, not_false_iff, Classical.not_not, nem, ite_not, ne_eq]
          · exact stp_same (v := vi (-13)) R (by simp (decide := true) (disch := (first | assumption | (simp only [Sh_setI, Sm_setI, Sh_setL, Sm_setL]; assumption) | omega)) only [E_141, B_141_0, B_141_5, B_141_12, B_141_16, B_141_19, B_141_27, B_141_33, B_141_38, B_141_44, B_141_53, c_sheetAt S hs4, reduceCtorEq, c_sheetSort, hy, c_isIn, n_leO, n_Ole, Nat.zero_le, hN, p2, c_isMissing p2, a1, hm, hq, bI_True, bI_False, p_max, p_min, p_abs, Option.bind_some, Option.bind_none, Option.toList_some, Option.toList_none, List.cons_append, List.nil_append, bI_eq0, bI_ne0, bI_ne1, bI_eq1, bI_01, eq_self, true_or, or_true, and_true, true_and, false_and, and_false, false_or, or_false, ite_true, ite_false, if_true, if_false, not_true, not_false_iff, Classical.not_not, nem, ite_not, ne_eq]) (by simp (decide := true) (disch := (first | assumption | (simp only [Sh_setI, Sm_setI, Sh_setL, Sm_setL]; assumption) | omega)) only [E_215, B_215_0, B_215_6, B_215_9, B_215_15, B_215_18, B_215_26, B_215_32, B_215_45, B_215_55, m_in, n_leO, n_Ole, Nat.zero_le, hs3, hy, hN, n_ix, n_cl, hm, hq, bI_True, bI_False, p_max, p_min, p_abs, Option.bind_some, Option.bind_none, Option.toList_some, Option.toList_none, List.cons_append, List.nil_append, bI_eq0, bI_ne0, bI_ne1, bI_eq1, bI_01, eq_self, true_or, or_true, and_true, true_and, false_and, and_false, false_or, or_false, ite_true, ite_false, if_true, if_false, not_true, not_false_iff, Classical.not_not, nem, ite_not, ne_eq])
      · exact stp_same (v := vi (-2)) R (by simp (decide := true) (disch := (first | assumption | (simp only [Sh_setI, Sm_setI, Sh_setL, Sm_setL]; assumption) | omega)) only [E_141, B_141_0, B_141_5, B_141_12, B_141_16, B_141_19, B_141_27, B_141_30, c_sheetAt S hs4, reduceCtorEq, c_sheetSort, hy, c_isIn, hn, bI_True, bI_False, p_max, p_min, p_abs, Option.bind_some, Option.bind_none, Option.toList_some, Option.toList_none, List.cons_append, List.nil_append, bI_eq0, bI_ne0, bI_ne1, bI_eq1, bI_01, eq_self, true_or, or_true, and_true, true_and, false_and, and_false, false_or, or_false, ite_true, ite_false, if_true, if_false, not_true, not_false_iff, Classical.not_not, nem, ite_not, ne_eq]) (by simp (decide := true) (disch := (first | assumption | (simp only [Sh_setI, Sm_setI, Sh_setL, Sm_setL]; assumption) | omega)) only [E_215, B_215_0, B_215_6, B_215_9, B_215_15, B_215_18, B_215_26, B_215_29, m_in, n_leO, n_Ole, Nat.zero_le, hs3, hy, hn, bI_True, bI_False, p_max, p_min, p_abs, Option.bind_some, Option.bind_none, Option.toList_some, Option.toList_none, List.cons_append, List.nil_append, bI_eq0, bI_ne0, bI_ne1, bI_eq1, bI_01, eq_self, true_or, or_true, and_true, true_and, false_and, and_false, false_or, or_false, ite_true, ite_false, if_true, if_false, not_true, not_false_iff, Classical.not_not, nem, ite_not, ne_eq])
    · exact stp_same (v := vi (-2)) R (by simp (decide := true) (disch := (first | assumption | (simp only [Sh_setI, Sm_setI, Sh_setL, Sm_setL]; assumption) | omega)) only [E_141, B_141_0, B_141_5, B_141_12, B_141_16, B_141_30, c_sheetAt S hs4, reduceCtorEq, c_sheetSort, hy, bI_True, bI_False, p_max, p_min, p_abs, Option.bind_some, Option.bind_none, Option.toList_some, Option.toList_none, List.cons_append, List.nil_append, bI_eq0, bI_ne0, bI_ne1, bI_eq1, bI_01, eq_self, true_or, or_true, and_true, true_and, false_and, and_false, false_or, or_false, ite_true, ite_false, if_true, if_false, not_true, not_false_iff, Classical.not_not, nem, ite_not, ne_eq]) (by simp (decide := true) (disch := (first | assumption | (simp only [Sh_setI, Sm_setI, Sh_setL, Sm_setL]; assumption) | omega)) only [E_215, B_215_0, B_215_6, B_215_9, B_215_15, B_215_29, m_in, n_leO, n_Ole, Nat.zero_le, hs3, hy, bI_True, bI_False, p_max, p_min, p_abs, Option.bind_some, Option.bind_none, Option.toList_some, Option.toList_none, List.cons_append, List.nil_append, bI_eq0, bI_ne0, bI_ne1, bI_eq1, bI_01, eq_self, true_or, or_true, and_true, true_and, false_and, and_false, false_or, or_false, ite_true, ite_false, if_true, if_false, not_true, not_false_iff, Classical.not_not, nem, ite_not, ne_eq])
  · exact stp_same (v := vi (-2)) R (by simp (decide := true) (disch := (first | assumption | (simp only [Sh_setI, Sm_setI, Sh_setL, Sm_setL]; assumption) | omega)) only [E_141, B_141_0, B_141_5, B_141_30, c_sheetNo hx, bI_True, bI_False, p_max, p_min, p_abs, Option.bind_some, Option.bind_none, Option.toList_some, Option.toList_none, List.cons_append, List.nil_append, bI_eq0, bI_ne0, bI_ne1, bI_eq1, bI_01, eq_self, true_or, or_true, and_true, true_and, false_and, and_false, false_or, or_false, ite_true, ite_false, if_true, if_false, not_true, not_false_iff, Classical.not_not, nem, ite_not, ne_eq]) (by simp (decide := true) (disch := (first | assumption | (simp only [Sh_setI, Sm_setI, Sh_setL, Sm_setL]; assumption) | omega)) only [E_215, B_215_0, B_215_6, B_215_29, m_in, hx, bI_True, bI_False, p_max, p_min, p_abs, Option.bind_some, Option.bind_none, Option.toList_some, Option.toList_none, List.cons_append, List.nil_append, bI_eq0, bI_ne0, bI_ne1, bI_eq1, bI_01, eq_self, true_or, or_true, and_true, true_and, false_and, and_false, false_or, or_false, ite_true, ite_false, if_true, if_false, not_true, not_false_iff, Classical.not_not, nem, ite_not, ne_eq])
end CARDSL
