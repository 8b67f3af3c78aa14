/-! refit: the loops -/
def Rs (m M : am_M) (h h' : am_H) (f : am_Tr) : Prop := Fi (fun a => a = 5 ∨ a = 6 ∨ a = 33) h h' ∧ CrB M h' ∧ hI h' 33 0 = f.1 ∧ hI h' 33 1 = f.2.1 ∧ hI h' 33 2 = f.2.2
def Rm (m M : am_M) (h h' : am_H) (f : am_Tr) : Prop := Fi (fun a => a = 56 ∨ a = 58) h h' ∧ hI h' 58 = M 58 ∧ ∀ q, hI h' 56 q = if q = 27 then f.1 else if q = 28 then f.2.1 else if q = 29 then f.2.2 else m 56 q
section REFIT2
variable {d : Nat} {h : am_H} {m : am_M}
theorem c_try (S : Sh h) (I : Inv m) (C : CR m h) {k so : Nat} (hk : k < yN m) (hso : so < 2) {kn cap : Int32} {l0 : Int64} : ∀ (j v : Nat) (l : Int64) (f : am_Tr) (h' : am_H) (x : Int32) (a11 : am_V), 99 < v + 7 * j → v ≤ 106 → (so = 0 → 1 ≤ v) → Rs m (upm m 58 (5 * so + k) x) h h' f → ∃ h1, Ev (d + 17) 109 23 [vr (some 1), vi (nI k), vi (nI so), vi kn, vi cap, vl l0, vu, vl l, vu, vi (m 58 (5 * so + k)), vi (nI v), a11, vu] [] h' = some (some (vl (tryG m kn cap k so j v l f).1), h1) ∧ Rs m m h h1 (tryG m kn cap k so j v l f).2 := by
  have h5 : yN m ≤ 5 := I.1.2.1.2
  have e58 : ∀ i x n, n ≠ 58 → upm m 58 i x n = m n := fun i x n q => upm_ne q
  have fin : ∀ (v : Nat) (l : Int64) (f : am_Tr) (h' : am_H) (x : Int32) (a11 : am_V), 99 < v → v ≤ 106 → Rs m (upm m 58 (5 * so + k) x) h h' f → ∃ h1, Ev (d + 17) 109 23 [vr (some 1), vi (nI k), vi (nI so), vi kn, vi cap, vl l0, vu, vl l, vu, vi (m 58 (5 * so + k)), vi (nI v), a11, vu] [] h' = some (some (vl l), h1) ∧ Rs m m h h1 f := by
    intro v l f h' x a11 hv hv2 ⟨F, B, f1, f2, f3⟩
    have S' := F.sh S
    have B1 := put_crB (v := m 58 (5 * so + k)) (show k < 5 by omega) hso B
    rw [upm_upm, upm_id] at B1
    refine ⟨setI h' (5 + so) k (m 58 (5 * so + k)), ?_, F.si (by omega), B1, by rw [hI_ne (by omega)]; exact f1, by rw [hI_ne (by omega)]; exact f2, by rw [hI_ne (by omega)]; exact f3⟩
    rw [B_109_23]
    simp (decide := true) (disch := (first | assumption | (simp only [Sh_setI, Sm_setI, Sh_setL, Sm_setL]; assumption) | omega)) only [n_Olt, hv, B_109_77 S', c_putSlow S' hso (show k < 5 by omega), B_109_88, bI_True, bI_False, p_max, p_min, p_abs, Option.bind_some, Option.bind_none, Option.toList_some, Option.toList_none, List.cons_append, List.nil_append, bI_eq0, bI_ne0, bI_ne1, bI_eq1, bI_01, eq_self, true_or, or_true, and_true, true_and, false_and, and_false, false_or, or_false, ite_true, ite_false, if_true, if_false, not_true, not_false_iff, Classical.not_not, nem, ite_not, ne_eq]
  intro j
  induction j with
  | zero =>
    intro v l f h' x a11 hj hv2 hv1 Q
    rw [tryG]
    exact fin v l f h' x a11 (by omega) hv2 Q
  | succ j ih =>
    intro v l f h' x a11 hj hv2 hv1 Q
    rw [tryG]
    by_cases hv : 99 < v
    · rw [if_pos hv]
      exact fin v l f h' x a11 hv hv2 Q
    · rw [if_neg hv]
      obtain ⟨F, B, f1, f2, f3⟩ := Q
      have S' := F.sh S
      have B1 := put_crB (v := nI v) (show k < 5 by omega) hso B
      rw [upm_upm] at B1
      have F1 : Fi (fun a => a = 5 ∨ a = 6 ∨ a = 33) h (setI h' (5 + so) k (nI v)) := F.si (by omega)
      have S1 := F1.sh S
      have IM : Inv (upm m 58 (5 * so + k) (nI v)) := inv_slow I (by omega) hso ⟨by omega, hv1⟩
      have A := Ao.of S I C IM (e58 _ _) F1 B1
      have ea := c_allOff (d := d + 4) A (kn := kn) (cap := cap)
      rw [show yC (upm m 58 (5 * so + k) (nI v)) = yC m by unfold yC; rw [e58 _ _ 56 (by omega)]] at ea
      generalize allF (upm m 58 (5 * so + k) (nI v)) kn cap (yC m) 0 0 = all at *
      have eh : Ev (d + 17) 109 23 [vr (some 1), vi (nI k), vi (nI so), vi kn, vi cap, vl l0, vu, vl l, vu, vi (m 58 (5 * so + k)), vi (nI v), a11, vu] [] h' = Ev (d + 17) 109 49 [vr (some 1), vi (nI k), vi (nI so), vi kn, vi cap, vl l0, vu, vl l, vu, vi (m 58 (5 * so + k)), vi (nI v), a11, vu] [vl all] (setI h' (5 + so) k (nI v)) := by
        rw [B_109_23]
        simp (decide := true) (disch := (first | assumption | (simp only [Sh_setI, Sm_setI, Sh_setL, Sm_setL]; assumption) | omega)) only [n_Olt, hv, B_109_30 S', c_putSlow S' hso (show k < 5 by omega), B_109_41 S1, ea, bI_True, bI_False, p_max, p_min, p_abs, Option.bind_some, Option.bind_none, Option.toList_some, Option.toList_none, List.cons_append, List.nil_append, bI_eq0, bI_ne0, bI_ne1, bI_eq1, bI_01, eq_self, true_or, or_true, and_true, true_and, false_and, and_false, false_or, or_false, ite_true, ite_false, if_true, if_false, not_true, not_false_iff, Classical.not_not, nem, ite_not, ne_eq]
      rw [eh]
      by_cases g : all < l
      · rw [if_pos g]
        have g' : ¬ 0 ≤ lg_cmp all l := fun w => Int64.not_le.mpr g ((lg_cmp_ge all l).mp w)
        obtain ⟨h1, e1, Q1⟩ := ih (v + 7) all (nI k, nI so, nI v) (setI (setI (setI (setI h' (5 + so) k (nI v)) 33 0 (nI k)) 33 1 (nI so)) 33 2 (nI v)) (nI v) (vl all) (by omega) (by omega) (by omega) ⟨((F1.si (by omega)).si (by omega)).si (by omega), by
          refine ⟨?_, ?_, fun j hj => ?_⟩
          · rw [hI_ne (by omega), hI_ne (by omega), hI_ne (by omega)]; exact B1.1
          · rw [hI_ne (by omega), hI_ne (by omega), hI_ne (by omega)]; exact B1.2.1
          · rw [hI_ne (a := 3) (by omega), hI_ne (a := 3) (by omega), hI_ne (a := 3) (by omega), hI_ne (a := 5) (by omega), hI_ne (a := 5) (by omega), hI_ne (a := 5) (by omega), hI_ne (a := 6) (by omega), hI_ne (a := 6) (by omega), hI_ne (a := 6) (by omega)]; exact B1.2.2 j hj, by simp (decide := true) (disch := (first | assumption | (simp only [Sh_setI, Sm_setI, Sh_setL, Sm_setL]; assumption) | omega)) only [hI_eq, bI_True, bI_False, p_max, p_min, p_abs, Option.bind_some, Option.bind_none, Option.toList_some, Option.toList_none, List.cons_append, List.nil_append, bI_eq0, bI_ne0, bI_ne1, bI_eq1, bI_01, eq_self, true_or, or_true, and_true, true_and, false_and, and_false, false_or, or_false, ite_true, ite_false, if_true, if_false, not_true, not_false_iff, Classical.not_not, nem, ite_not, ne_eq], by simp (decide := true) (disch := (first | assumption | (simp only [Sh_setI, Sm_setI, Sh_setL, Sm_setL]; assumption) | omega)) only [hI_eq, bI_True, bI_False, p_max, p_min, p_abs, Option.bind_some, Option.bind_none, Option.toList_some, Option.toList_none, List.cons_append, List.nil_append, bI_eq0, bI_ne0, bI_ne1, bI_eq1, bI_01, eq_self, true_or, or_true, and_true, true_and, false_and, and_false, false_or, or_false, ite_true, ite_false, if_true, if_false, not_true, not_false_iff, Classical.not_not, nem, ite_not, ne_eq], by simp (decide := true) (disch := (first | assumption | (simp only [Sh_setI, Sm_setI, Sh_setL, Sm_setL]; assumption) | omega)) only [hI_eq, bI_True, bI_False, p_max, p_min, p_abs, Option.bind_some, Option.bind_none, Option.toList_some, Option.toList_none, List.cons_append, List.nil_append, bI_eq0, bI_ne0, bI_ne1, bI_eq1, bI_01, eq_self, true_or, or_true, and_true, true_and, false_and, and_false, false_or, or_false, ite_true, ite_false, if_true, if_false, not_true, not_false_iff, Classical.not_not, nem, ite_not, ne_eq]⟩
        refine ⟨h1, ?_, Q1⟩
        simp (decide := true) (disch := (first | assumption | (simp only [Sh_setI, Sm_setI, Sh_setL, Sm_setL]; assumption) | omega)) only [B_109_49, g', B_109_59 S1, c_keep S1, B_109_71, n_addO, bI_True, bI_False, p_max, p_min, p_abs, Option.bind_some, Option.bind_none, Option.toList_some, Option.toList_none, List.cons_append, List.nil_append, bI_eq0, bI_ne0, bI_ne1, bI_eq1, bI_01, eq_self, true_or, or_true, and_true, true_and, false_and, and_false, false_or, or_false, ite_true, ite_false, if_true, if_false, not_true, not_false_iff, Classical.not_not, nem, ite_not, ne_eq]
        exact e1
      · rw [if_neg g]
        have g' : 0 ≤ lg_cmp all l := (lg_cmp_ge all l).mpr (Int64.not_lt.mp g)
        obtain ⟨h1, e1, Q1⟩ := ih (v + 7) l f (setI h' (5 + so) k (nI v)) (nI v) (vl all) (by omega) (by omega) (by omega) ⟨F1, B1, by rw [hI_ne (by omega)]; exact f1, by rw [hI_ne (by omega)]; exact f2, by rw [hI_ne (by omega)]; exact f3⟩
        refine ⟨h1, ?_, Q1⟩
        simp (decide := true) (disch := (first | assumption | (simp only [Sh_setI, Sm_setI, Sh_setL, Sm_setL]; assumption) | omega)) only [B_109_49, g', B_109_71, n_addO, bI_True, bI_False, p_max, p_min, p_abs, Option.bind_some, Option.bind_none, Option.toList_some, Option.toList_none, List.cons_append, List.nil_append, bI_eq0, bI_ne0, bI_ne1, bI_eq1, bI_01, eq_self, true_or, or_true, and_true, true_and, false_and, and_false, false_or, or_false, ite_true, ite_false, if_true, if_false, not_true, not_false_iff, Classical.not_not, nem, ite_not, ne_eq]
        exact e1
theorem c_one (S : Sh h) (I : Inv m) (C : CR m h) {k so : Nat} (hk : k < yN m) (hso : so < 2) {kn cap : Int32} {l : Int64} {f : am_Tr} {h' : am_H} (Q : Rs m m h h' f) : ∃ h1, Cl (d + 17) 109 [vr (some 1), vi (nI k), vi (nI so), vi kn, vi cap, vl l] h' = some (some (vl (tryG m kn cap k so 16 (if so = 0 then 1 else 0) l f).1), h1) ∧ Rs m m h h1 (tryG m kn cap k so 16 (if so = 0 then 1 else 0) l f).2 := by
  have h5 : yN m ≤ 5 := I.1.2.1.2
  obtain ⟨F, B, q⟩ := id Q
  have S' := F.sh S
  obtain ⟨h1, e1, Q1⟩ := c_try (d := d) S I C hk hso (kn := kn) (cap := cap) (l0 := l) 16 (if so = 0 then 1 else 0) l f h' (m 58 (5 * so + k)) vu (by split <;> omega) (by split <;> omega) (by intro w; rw [if_pos w]; exact Nat.le_refl _) (by rw [upm_id]; exact Q)
  refine ⟨h1, ?_, Q1⟩
  have ew : hI h' (5 + so) k = m 58 (5 * so + k) := by
    have := B.2.2 k (by omega)
    match so, hso with
    | 0, _ => rw [Nat.mul_zero, Nat.zero_add]; exact this.2.1
    | 1, _ => exact this.2.2
  match so, hso with
  | 0, _ =>
    have r4 : hR h' 4 0 = some 5 := S'.rf rfl rfl
    have k4 : hkd h' 5 = 100 := S'.kd rfl rfl
    have l4 : hln h' 5 = 5 := S'.ln rfl rfl
    simp (decide := true) (disch := (first | assumption | (simp only [Sh_setI, Sm_setI, Sh_setL, Sm_setL]; assumption) | omega)) only [E_109, B_109_0 S', n_ix, n_cl, r4, k4, l4, E_36, B_36_0, B_36_4, B_36_8, B_36_9, n_eqO, B_109_21, bI_True, bI_False, p_max, p_min, p_abs, Option.bind_some, Option.bind_none, Option.toList_some, Option.toList_none, List.cons_append, List.nil_append, bI_eq0, bI_ne0, bI_ne1, bI_eq1, bI_01, eq_self, true_or, or_true, and_true, true_and, false_and, and_false, false_or, or_false, ite_true, ite_false, if_true, if_false, not_true, not_false_iff, Classical.not_not, nem, ite_not, ne_eq]
    rw [show hI h' 5 k = m 58 (5 * 0 + k) from ew]
    exact e1
  | 1, _ =>
    have r4 : hR h' 4 1 = some 6 := S'.rf rfl rfl
    have k4 : hkd h' 6 = 100 := S'.kd rfl rfl
    have l4 : hln h' 6 = 5 := S'.ln rfl rfl
    simp (decide := true) (disch := (first | assumption | (simp only [Sh_setI, Sm_setI, Sh_setL, Sm_setL]; assumption) | omega)) only [E_109, B_109_0 S', n_ix, n_cl, r4, k4, l4, E_36, B_36_0, B_36_4, B_36_8, B_36_9, n_eqO, B_109_21, bI_True, bI_False, p_max, p_min, p_abs, Option.bind_some, Option.bind_none, Option.toList_some, Option.toList_none, List.cons_append, List.nil_append, bI_eq0, bI_ne0, bI_ne1, bI_eq1, bI_01, eq_self, true_or, or_true, and_true, true_and, false_and, and_false, false_or, or_false, ite_true, ite_false, if_true, if_false, not_true, not_false_iff, Classical.not_not, nem, ite_not, ne_eq]
    rw [show hI h' 6 k = m 58 (5 * 1 + k) from ew]
    exact e1
theorem c_ref (S : Sh h) (I : Inv m) (C : CR m h) {kn cap : Int32} : ∀ (j k : Nat) (l : Int64) (f : am_Tr) (h' : am_H), k + j = yN m → Rs m m h h' f → ∃ h1, Ev (d + 21) 106 40 [vr (some 1), vi kn, vi cap, vl l, vu, vi (nI k)] [] h' = some (some (vl (refG m kn cap j k l f).1), h1) ∧ Rs m m h h1 (refG m kn cap j k l f).2 := by
  have h5 : yN m ≤ 5 := I.1.2.1.2
  have b2 : ∀ h', CrB m h' → hI h' 2 2 = nI (yN m) := fun h' B => B.2.1.trans I.1.2.1.1
  intro j
  induction j with
  | zero =>
    intro k l f h' e Q
    have S' := Q.1.sh S
    refine ⟨h', ?_, Q⟩
    rw [B_106_40 S', b2 h' Q.2.1]
    simp (decide := true) (disch := (first | assumption | (simp only [Sh_setI, Sm_setI, Sh_setL, Sm_setL]; assumption) | omega)) only [n_le, show yN m ≤ k by omega, B_106_80, refG, bI_True, bI_False, p_max, p_min, p_abs, Option.bind_some, Option.bind_none, Option.toList_some, Option.toList_none, List.cons_append, List.nil_append, bI_eq0, bI_ne0, bI_ne1, bI_eq1, bI_01, eq_self, true_or, or_true, and_true, true_and, false_and, and_false, false_or, or_false, ite_true, ite_false, if_true, if_false, not_true, not_false_iff, Classical.not_not, nem, ite_not, ne_eq]
  | succ j ih =>
    intro k l f h' e Q
    have S' := Q.1.sh S
    obtain ⟨h1, e1, Q1⟩ := c_one (d := d + 3) S I C (k := k) (so := 0) (by omega) (by omega) (kn := kn) (cap := cap) (l := l) Q
    have S1 := Q1.1.sh S
    rw [if_pos rfl] at e1 Q1
    obtain ⟨h2, e2, Q2⟩ := c_one (d := d + 3) S I C (k := k) (so := 1) (by omega) (by omega) (kn := kn) (cap := cap) (l := (tryG m kn cap k 0 16 1 l f).1) Q1
    rw [if_neg (by decide)] at e2 Q2
    obtain ⟨h3, e3, Q3⟩ := ih (k + 1) (tryG m kn cap k 1 16 0 (tryG m kn cap k 0 16 1 l f).1 (tryG m kn cap k 0 16 1 l f).2).1 _ h2 (by omega) Q2
    refine ⟨h3, ?_, by rw [refG]; exact Q3⟩
    rw [B_106_40 S', b2 h' Q.2.1, refG]
    rw [show nI 0 = (0 : Int32) from rfl] at e1
    rw [show nI 1 = (1 : Int32) from rfl] at e2
    simp (decide := true) (disch := (first | assumption | (simp only [Sh_setI, Sm_setI, Sh_setL, Sm_setL]; assumption) | omega)) only [n_le, show ¬ yN m ≤ k by omega, B_106_52 S', e1, B_106_62 S1, e2, B_106_73, n_addO, bI_True, bI_False, p_max, p_min, p_abs, Option.bind_some, Option.bind_none, Option.toList_some, Option.toList_none, List.cons_append, List.nil_append, bI_eq0, bI_ne0, bI_ne1, bI_eq1, bI_01, eq_self, true_or, or_true, and_true, true_and, false_and, and_false, false_or, or_false, ite_true, ite_false, if_true, if_false, not_true, not_false_iff, Classical.not_not, nem, ite_not, ne_eq]
    exact e3
theorem m_try (T : Sm h) (I : Inv m) (em : ∀ n, 56 ≤ n → n ≤ 88 → hI h n = m n) {k so : Nat} (hk : k < yN m) (hso : so < 2) {kn cap : Int32} : ∀ (j v : Nat) (l : Int64) (f : am_Tr) (h' : am_H) (x : Int32) (a9 : am_V), 99 < v + 7 * j → v ≤ 106 → (so = 0 → 1 ≤ v) → Rm m (upm m 58 (5 * so + k) x) h h' f → ∃ h1 a8 a9', Ev (d + 17) 200 92 [vr (some 56), vi kn, vi cap, vl l, vu, vi (nI k), vi (nI so), vi (m 58 (5 * so + k)), vi (nI v), a9, vu] [] h' = Ev (d + 17) 200 60 [vr (some 56), vi kn, vi cap, vl (tryG m kn cap k so j v l f).1, vu, vi (nI k), vi (nI (so + 1)), vi (m 58 (5 * so + k)), a8, a9', vu] [] h1 ∧ Rm m m h h1 (tryG m kn cap k so j v l f).2 := by
  have h5 : yN m ≤ 5 := I.1.2.1.2
  have e58 : ∀ i x n, n ≠ 58 → upm m 58 i x n = m n := fun i x n q => upm_ne q
  have fin : ∀ (v : Nat) (l : Int64) (f : am_Tr) (h' : am_H) (x : Int32) (a9 : am_V), 99 < v → v ≤ 106 → Rm m (upm m 58 (5 * so + k) x) h h' f → ∃ h1 a8 a9', Ev (d + 17) 200 92 [vr (some 56), vi kn, vi cap, vl l, vu, vi (nI k), vi (nI so), vi (m 58 (5 * so + k)), vi (nI v), a9, vu] [] h' = Ev (d + 17) 200 60 [vr (some 56), vi kn, vi cap, vl l, vu, vi (nI k), vi (nI (so + 1)), vi (m 58 (5 * so + k)), a8, a9', vu] [] h1 ∧ Rm m m h h1 f := by
    intro v l f h' x a9 hv hv2 ⟨F, q58, q56⟩
    have T' := F.sm T
    refine ⟨setI h' 58 (5 * so + k) (m 58 (5 * so + k)), vi (nI v), a9, ?_, F.si (by omega), ?_, fun q => by rw [hI_ne (by omega)]; exact q56 q⟩
    · rw [B_200_92]
      simp (decide := true) (disch := (first | assumption | (simp only [Sh_setI, Sm_setI, Sh_setL, Sm_setL]; assumption) | omega)) only [n_Ole, show 100 ≤ v by omega, B_200_155 T', n_Omul, n_add, n_ix, n_cl, n_addO, bI_True, bI_False, p_max, p_min, p_abs, Option.bind_some, Option.bind_none, Option.toList_some, Option.toList_none, List.cons_append, List.nil_append, bI_eq0, bI_ne0, bI_ne1, bI_eq1, bI_01, eq_self, true_or, or_true, and_true, true_and, false_and, and_false, false_or, or_false, ite_true, ite_false, if_true, if_false, not_true, not_false_iff, Classical.not_not, nem, ite_not, ne_eq]
    · rw [ups_h, q58]
      funext q
      show (if q = 5 * so + k then m 58 (5 * so + k) else upm m 58 (5 * so + k) x 58 q) = m 58 q
      rw [upm_eq]
      by_cases w : q = 5 * so + k
      · rw [if_pos w, w]
      · rw [if_neg w, if_neg w]
  intro j
  induction j with
  | zero =>
    intro v l f h' x a9 hj hv2 hv1 Q
    rw [tryG]
    exact fin v l f h' x a9 (by omega) hv2 Q
  | succ j ih =>
    intro v l f h' x a9 hj hv2 hv1 Q
    rw [tryG]
    by_cases hv : 99 < v
    · rw [if_pos hv]
      exact fin v l f h' x a9 hv hv2 Q
    · rw [if_neg hv]
      obtain ⟨F, q58, q56⟩ := Q
      have T' := F.sm T
      have F1 : Fi (fun a => a = 56 ∨ a = 58) h (setI h' 58 (5 * so + k) (nI v)) := F.si (by omega)
      have T1 := F1.sm T
      have IM : Inv (upm m 58 (5 * so + k) (nI v)) := inv_slow I (by omega) hso ⟨by omega, hv1⟩
      have q58' : hI (setI h' 58 (5 * so + k) (nI v)) 58 = upm m 58 (5 * so + k) (nI v) 58 := by
        rw [ups_h, q58]
        funext q
        show (if q = 5 * so + k then nI v else upm m 58 (5 * so + k) x 58 q) = _
        rw [upm_eq, upm_eq]
        by_cases w : q = 5 * so + k
        · rw [if_pos w, if_pos w]
        · rw [if_neg w, if_neg w, if_neg w]
      have q56' : ∀ q, hI (setI h' 58 (5 * so + k) (nI v)) 56 q = if q = 27 then f.1 else if q = 28 then f.2.1 else if q = 29 then f.2.2 else m 56 q := fun q => by rw [hI_ne (by omega)]; exact q56 q
      have ee : ∀ n, 57 ≤ n → n ≤ 84 → hI (setI h' 58 (5 * so + k) (nI v)) n = upm m 58 (5 * so + k) (nI v) n := fun n z1 z2 => by
        by_cases w : n = 58
        · rw [w]; exact q58'
        · rw [F1.2.2.2.2.2 n (by omega), e58 _ _ n w, em n (by omega) (by omega)]
      have ee2 : ∀ f, f < 27 ∨ (30 ≤ f ∧ f < 44) → hI (setI h' 58 (5 * so + k) (nI v)) 56 f = upm m 58 (5 * so + k) (nI v) 56 f := fun q z => by
        rw [q56', if_neg (by omega), if_neg (by omega), if_neg (by omega), e58 _ _ 56 (by omega)]
      have I1 : Inv (hI (setI h' 58 (5 * so + k) (nI v))) := Inv_cg2 ee ee2 IM
      have ea := m_allOff (d := d + 4) T1 I1 (kn := kn) (cap := cap)
      rw [allF_cg ee (ee2 1 (by omega)), show yC (hI (setI h' 58 (5 * so + k) (nI v))) = yC m by unfold yC; rw [ee2 12 (by omega), e58 _ _ 56 (by omega)]] at ea
      generalize allF (upm m 58 (5 * so + k) (nI v)) kn cap (yC m) 0 0 = all at *
      have eh : Ev (d + 17) 200 92 [vr (some 56), vi kn, vi cap, vl l, vu, vi (nI k), vi (nI so), vi (m 58 (5 * so + k)), vi (nI v), a9, vu] [] h' = Ev (d + 17) 200 119 [vr (some 56), vi kn, vi cap, vl l, vu, vi (nI k), vi (nI so), vi (m 58 (5 * so + k)), vi (nI v), a9, vu] [vl all] (setI h' 58 (5 * so + k) (nI v)) := by
        rw [B_200_92]
        simp (decide := true) (disch := (first | assumption | (simp only [Sh_setI, Sm_setI, Sh_setL, Sm_setL]; assumption) | omega)) only [n_Ole, show ¬ 100 ≤ v by omega, B_200_99 T', n_Omul, n_add, n_ix, n_cl, ea, bI_True, bI_False, p_max, p_min, p_abs, Option.bind_some, Option.bind_none, Option.toList_some, Option.toList_none, List.cons_append, List.nil_append, bI_eq0, bI_ne0, bI_ne1, bI_eq1, bI_01, eq_self, true_or, or_true, and_true, true_and, false_and, and_false, false_or, or_false, ite_true, ite_false, if_true, if_false, not_true, not_false_iff, Classical.not_not, nem, ite_not, ne_eq]
      rw [eh]
      by_cases g : all < l
      · rw [if_pos g]
        have g' : ¬ 0 ≤ lg_cmp all l := fun w => Int64.not_le.mpr g ((lg_cmp_ge all l).mp w)
        have T2 : Sm (setI (setI (setI h' 58 (5 * so + k) (nI v)) 56 27 (nI k)) 56 28 (nI so)) := T1.si.si
        obtain ⟨h1, a8, a9', e1, Q1⟩ := ih (v + 7) all (nI k, nI so, nI v) (setI (setI (setI (setI h' 58 (5 * so + k) (nI v)) 56 27 (nI k)) 56 28 (nI so)) 56 29 (nI v)) (nI v) (vl all) (by omega) (by omega) (by omega) ⟨((F1.si (by omega)).si (by omega)).si (by omega), by rw [hI_ne (by omega), hI_ne (by omega), hI_ne (by omega)]; exact q58', fun q => by
          rw [hI_eq, hI_eq, hI_eq, q56']
          by_cases w1 : q = 27
          · subst w1; rfl
          · by_cases w2 : q = 28
            · subst w2; rfl
            · by_cases w3 : q = 29
              · subst w3; rfl
              · rw [if_neg w3, if_neg w2, if_neg w1, if_neg w1, if_neg w2, if_neg w3, if_neg w1, if_neg w2, if_neg w3]⟩
        refine ⟨h1, a8, a9', ?_, Q1⟩
        simp (decide := true) (disch := (first | assumption | (simp only [Sh_setI, Sm_setI, Sh_setL, Sm_setL]; assumption) | omega)) only [B_200_119, g', B_200_128 T1, B_200_143 T2, B_200_149, n_addO, bI_True, bI_False, p_max, p_min, p_abs, Option.bind_some, Option.bind_none, Option.toList_some, Option.toList_none, List.cons_append, List.nil_append, bI_eq0, bI_ne0, bI_ne1, bI_eq1, bI_01, eq_self, true_or, or_true, and_true, true_and, false_and, and_false, false_or, or_false, ite_true, ite_false, if_true, if_false, not_true, not_false_iff, Classical.not_not, nem, ite_not, ne_eq]
        exact e1
      · rw [if_neg g]
        have g' : 0 ≤ lg_cmp all l := (lg_cmp_ge all l).mpr (Int64.not_lt.mp g)
        obtain ⟨h1, a8, a9', e1, Q1⟩ := ih (v + 7) l f (setI h' 58 (5 * so + k) (nI v)) (nI v) (vl all) (by omega) (by omega) (by omega) ⟨F1, q58', q56'⟩
        refine ⟨h1, a8, a9', ?_, Q1⟩
        simp (decide := true) (disch := (first | assumption | (simp only [Sh_setI, Sm_setI, Sh_setL, Sm_setL]; assumption) | omega)) only [B_200_119, g', B_200_149, n_addO, bI_True, bI_False, p_max, p_min, p_abs, Option.bind_some, Option.bind_none, Option.toList_some, Option.toList_none, List.cons_append, List.nil_append, bI_eq0, bI_ne0, bI_ne1, bI_eq1, bI_01, eq_self, true_or, or_true, and_true, true_and, false_and, and_false, false_or, or_false, ite_true, ite_false, if_true, if_false, not_true, not_false_iff, Classical.not_not, nem, ite_not, ne_eq]
        exact e1
end REFIT2
