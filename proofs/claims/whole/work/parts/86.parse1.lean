/-! text: the class's reading, loops -/
def Tk (T V : Nat → Nat) (N : Nat) (h : am_H) : Prop := ∀ k, k ≤ N → hI h 13 k = nI (T k) ∧ (T k = 1 → hI h 15 k = nI (V k))
def Co (a : List tOp) (h : am_H) : Prop := hI h 10 3 = nI a.length ∧ ∀ k o, a[k]? = some o → hI h 16 k = encC o
def Rn (r : tRs) (h : am_H) (X : Option (Option am_V × am_H)) : Prop := ∃ h1, X = some (some (vi (bI (r.1 = true))), h1) ∧ Fi (fun a => a = 10 ∨ a = 16) h h1 ∧ hI h1 10 1 = nI r.2.1 ∧ (r.1 = true → Co r.2.2 h1) ∧ ∃ n, n ≤ 160 ∧ hI h1 10 3 = nI n
def dmT (l o : Nat) : Nat := 8 * (6 - o) + (8 - l) + 6
theorem Tk.fi {T V : Nat → Nat} {N : Nat} {h h' : am_H} (K : Tk T V N h) (F : Fi (fun a => a = 10 ∨ a = 16) h h') : Tk T V N h' := fun k hk => by
  rw [F.2.2.2.2.2 13 (by omega), F.2.2.2.2.2 15 (by omega)]
  exact K k hk
theorem Co.s1 {a : List tOp} {h : am_H} {v : Int32} (C : Co a h) : Co a (setI h 10 1 v) := ⟨by rw [hI_eq, if_neg (by omega)]; exact C.1, fun k o q => by rw [hI_ne (by omega)]; exact C.2 k o q⟩
/-- what a reading with less fuel comes to -/
def RdI (T V : Nat → Nat) (N f : Nat) : Prop := ∀ (l o t : Nat) (a : List tOp) (r : tRs), lvOk l → rd T V f l o t a = some r → t ≤ N → a.length ≤ t → o ≤ 5 → ∀ (D : Nat) (h : am_H), Sh h → Tk T V N h → hI h 10 1 = nI t → Co a h → dmT (if l < 10 then l else l - 10) o ≤ D → (1 ≤ l → l ≤ 7 → Rn r h (Cl D (21 + l) [vr (some 10), vi (nI o)] h)) ∧ (∀ u, u ≤ t → (l = 11 → Rn r h (Ev D 22 8 [vr (some 10), vi (nI o), vi 1, vi (nI u)] [] h)) ∧ (l = 12 → Rn r h (Ev D 23 8 [vr (some 10), vi (nI o), vi 1, vi (nI u)] [] h)) ∧ (l = 16 → Rn r h (Ev D 27 8 [vr (some 10), vi (nI o), vi 1, vi (nI u)] [] h)) ∧ (l = 15 → ∀ a4, Rn r h (Ev D 26 8 [vr (some 10), vi (nI o), vi 1, vi (nI u), a4] [] h))) ∧ (l = 14 → Rn r h (Ev D 25 23 [vr (some 10), vi (nI o), vi 1, vi (nI (T t))] [] h))
theorem sg2_y1 {c b : Nat} (h : sg2 1 c = some b) : c = 130 ∧ b = 0 := by
  unfold sg2 at h
  rw [if_pos rfl] at h
  split at h <;> cases h
  exact ⟨by assumption, rfl⟩
theorem sg2_y2 {c b : Nat} (h : sg2 2 c = some b) : c = 131 ∧ b = 1 := by
  unfold sg2 at h
  rw [if_neg (by decide), if_pos rfl] at h
  split at h <;> cases h
  exact ⟨by assumption, rfl⟩
theorem sg2_y6 {c b : Nat} (h : sg2 6 c = some b) : c = 42 ∧ b = 6 := by
  unfold sg2 at h
  rw [if_neg (by decide), if_neg (by decide), if_neg (by decide), if_neg (by decide), if_pos rfl] at h
  split at h <;> cases h
  exact ⟨by assumption, rfl⟩
theorem sg2_n1 {c : Nat} (h : sg2 1 c = none) : c ≠ 130 := fun w => by rw [w] at h; exact absurd h (by decide)
theorem sg2_n2 {c : Nat} (h : sg2 2 c = none) : c ≠ 131 := fun w => by rw [w] at h; exact absurd h (by decide)
theorem sg2_n6 {c : Nat} (h : sg2 6 c = none) : c ≠ 42 := fun w => by rw [w] at h; exact absurd h (by decide)
section PARSE1
variable {d : Nat} {h : am_H}
theorem c_accT (S : Sh h) {t c : Nat} (qa : hI h 10 1 = nI t) (ht : t ≤ 160) (kt : hI h 13 t = nI c) {w : Int32} (e : nI c = w) : Cl (d + 4) 21 [vr (some 10), vi w] h = some (some (vi 1), setI h 10 1 (nI (t + 1))) := by
  rw [e] at kt
  simp (decide := true) (disch := (first | assumption | (simp only [Sh_setI, Sm_setI, Sh_setL, Sm_setL]; assumption) | omega)) only [E_21, B_21_0, B_21_16, B_21_20, B_21_21, B_21_26, B_21_36, qa, n_ix, n_cl, kt, n_addO, bI_True, bI_False, p_max, p_min, p_abs, Option.bind_some, Option.bind_none, Option.toList_some, Option.toList_none, List.cons_append, List.nil_append, bI_eq0, bI_ne0, bI_ne1, bI_eq1, bI_01, eq_self, true_or, or_true, and_true, true_and, false_and, and_false, false_or, or_false, ite_true, ite_false, if_true, if_false, not_true, not_false_iff, Classical.not_not, nem, ite_not, ne_eq]
theorem c_accF (S : Sh h) {t c : Nat} (qa : hI h 10 1 = nI t) (ht : t ≤ 160) (kt : hI h 13 t = nI c) {w : Int32} (e : ¬ nI c = w) : Cl (d + 4) 21 [vr (some 10), vi w] h = some (some (vi 0), h) := by
  simp (decide := true) (disch := (first | assumption | (simp only [Sh_setI, Sm_setI, Sh_setL, Sm_setL]; assumption) | omega)) only [E_21, B_21_0, B_21_16, B_21_20, B_21_21, B_21_26, B_21_36, qa, n_ix, n_cl, kt, e, bI_True, bI_False, p_max, p_min, p_abs, Option.bind_some, Option.bind_none, Option.toList_some, Option.toList_none, List.cons_append, List.nil_append, bI_eq0, bI_ne0, bI_ne1, bI_eq1, bI_01, eq_self, true_or, or_true, and_true, true_and, false_and, and_false, false_or, or_false, ite_true, ite_false, if_true, if_false, not_true, not_false_iff, Classical.not_not, nem, ite_not, ne_eq]
theorem c_emit (S : Sh h) {n : Nat} (hn : n ≤ 160) (q3 : hI h 10 3 = nI n) {v : Int32} : ∃ h1, Cl (d + 4) 30 [vr (some 10), vi v] h = some (none, h1) ∧ Fi (fun a => a = 10 ∨ a = 16) h h1 ∧ hI h1 10 1 = hI h 10 1 ∧ (∃ n', n' ≤ 160 ∧ hI h1 10 3 = nI n') ∧ ∀ a o, Co a h → a.length < 160 → v = encC o → Co (a ++ [o]) h1 := by
  by_cases f : n = 160
  · refine ⟨h, by simp (decide := true) (disch := (first | assumption | (simp only [Sh_setI, Sm_setI, Sh_setL, Sm_setL]; assumption) | omega)) only [E_30, B_30_0, B_30_10, B_30_27, q3, n_Ole, f, bI_True, bI_False, p_max, p_min, p_abs, Option.bind_some, Option.bind_none, Option.toList_some, Option.toList_none, List.cons_append, List.nil_append, bI_eq0, bI_ne0, bI_ne1, bI_eq1, bI_01, eq_self, true_or, or_true, and_true, true_and, false_and, and_false, false_or, or_false, ite_true, ite_false, if_true, if_false, not_true, not_false_iff, Classical.not_not, nem, ite_not, ne_eq], Fi.rf, rfl, ⟨n, hn, q3⟩, fun a o C hl _ => ?_⟩
    have := C.1
    rw [q3, n_eq (by omega) (by omega)] at this
    omega
  · refine ⟨setI (setI h 10 3 (nI (n + 1))) 16 n v, ?_, (Fi.rf.si (Or.inl rfl)).si (Or.inr rfl), by rw [hI_ne (by omega), hI_eq, if_neg (by omega)], ⟨n + 1, by omega, by rw [hI_ne (by omega), hI_eq, if_pos rfl]⟩, fun a o C hl ev => ?_⟩
    · simp (decide := true) (disch := (first | assumption | (simp only [Sh_setI, Sm_setI, Sh_setL, Sm_setL]; assumption) | omega)) only [E_30, B_30_0, B_30_10, B_30_27, q3, n_Ole, show ¬ 160 ≤ n by omega, n_ix, n_cl, n_addO, bI_True, bI_False, p_max, p_min, p_abs, Option.bind_some, Option.bind_none, Option.toList_some, Option.toList_none, List.cons_append, List.nil_append, bI_eq0, bI_ne0, bI_ne1, bI_eq1, bI_01, eq_self, true_or, or_true, and_true, true_and, false_and, and_false, false_or, or_false, ite_true, ite_false, if_true, if_false, not_true, not_false_iff, Classical.not_not, nem, ite_not, ne_eq]
    · have := C.1
      rw [q3, n_eq (by omega) (by omega)] at this
      refine ⟨by rw [hI_ne (by omega), hI_eq, if_pos rfl, this, List.length_append]; rfl, fun k o' w => ?_⟩
      rw [hI_eq]
      by_cases z : k = n
      · rw [if_pos z, ev]
        rw [z, this, List.getElem?_append_right (Nat.le_refl _), Nat.sub_self] at w
        have : o = o' := by simpa using w
        rw [this]
      · rw [if_neg z, hI_ne (by omega)]
        have : k < a.length := by
          have := (List.getElem?_eq_some_iff.mp w).1
          rw [List.length_append] at this
          have : k < a.length + 1 := this
          omega
        rw [List.getElem?_append_left this] at w
        exact C.2 k o' w
end PARSE1
theorem c_lp1 {T V : Nat → Nat} {N f : Nat} (hN : N ≤ 160) (hT0 : ∀ t, N ≤ t → T t = 0) (hTb : ∀ t, T t < 200) (hV : ∀ k, T k = 1 → V k ≤ 9999) (ih : RdI T V N f) {o t : Nat} {a : List tOp} {r : tRs} (e : rd T V (f + 1) 11 o t a = some r) (ht : t ≤ N) (ha : a.length ≤ t) (ho : o ≤ 5) {D : Nat} {h : am_H} (S : Sh h) (K : Tk T V N h) (qa : hI h 10 1 = nI t) (C : Co a h) (hD : dmT 1 o ≤ D) {u : Nat} (hu : u ≤ t) : Rn r h (Ev D 22 8 [vr (some 10), vi (nI o), vi 1, vi (nI u)] [] h) := by
  obtain ⟨d, rfl⟩ : ∃ d, D = d + 6 := ⟨D - 6, by unfold dmT at hD; omega⟩
  have kt := (K t ht).1
  have tb := hTb t
  have lt : T t ≠ 0 → t < N := fun h => Classical.byContradiction fun w => h (hT0 t (by omega))
  rcases rd_lp (l := 1) (by omega) e with ⟨es, rfl⟩ | ⟨b, q, es, e1, hq⟩
  · have cn := sg2_n1 es
    refine ⟨h, ?_, Fi.rf, qa, fun _ => C, a.length, by omega, C.1⟩
    have ca := fun d => c_accF (d := d) S qa (by omega) kt (w := 130) (by rw [n_eqO (by omega) (by decide)]; exact cn)
    rw [B_22_8]
    by_cases u6 : u = 160
    · simp (decide := true) (disch := (first | assumption | (simp only [Sh_setI, Sm_setI, Sh_setL, Sm_setL]; assumption) | omega)) only [n_Ole, show 160 ≤ u by omega, B_22_48, bI_True, bI_False, p_max, p_min, p_abs, Option.bind_some, Option.bind_none, Option.toList_some, Option.toList_none, List.cons_append, List.nil_append, bI_eq0, bI_ne0, bI_ne1, bI_eq1, bI_01, eq_self, true_or, or_true, and_true, true_and, false_and, and_false, false_or, or_false, ite_true, ite_false, if_true, if_false, not_true, not_false_iff, Classical.not_not, nem, ite_not, ne_eq]
    · simp (decide := true) (disch := (first | assumption | (simp only [Sh_setI, Sm_setI, Sh_setL, Sm_setL]; assumption) | omega)) only [n_Ole, show ¬ 160 ≤ u by omega, B_22_15, B_22_19 S, ca, B_22_26, B_22_48, bI_True, bI_False, p_max, p_min, p_abs, Option.bind_some, Option.bind_none, Option.toList_some, Option.toList_none, List.cons_append, List.nil_append, bI_eq0, bI_ne0, bI_ne1, bI_eq1, bI_01, eq_self, true_or, or_true, and_true, true_and, false_and, and_false, false_or, or_false, ite_true, ite_false, if_true, if_false, not_true, not_false_iff, Classical.not_not, nem, ite_not, ne_eq]
  · obtain ⟨cy, rfl⟩ := sg2_y1 es
    have tN := lt (by omega)
    have ca := fun d => c_accT (d := d) S qa (by omega) kt (w := 130) (by rw [cy]; rfl)
    have S1 : Sh (setI h 10 1 (nI (t + 1))) := S.si
    have F1 : Fi (fun a => a = 10 ∨ a = 16) h (setI h 10 1 (nI (t + 1))) := Fi.rf.si (Or.inl rfl)
    obtain ⟨h2, e2, F2, qa2, C2, n2, hn2, q32⟩ := (ih (1 + 1) o (t + 1) a q (by unfold lvOk; omega) e1 (by omega) (by omega) ho (d + 5) _ S1 (K.fi F1) (by rw [hI_eq, if_pos rfl]) (C.s1) (by rw [if_pos (by decide)]; unfold dmT at hD ⊢; omega)).1 (by omega) (by omega)
    have S2 := F2.sh S1
    obtain ⟨h3, e3, F3, qa3, n3, C3⟩ := c_emit (d := d + 1) S2 hn2 q32 (v := -130)
    have F123 := (F1.tr F2).tr F3
    obtain ⟨fa, fb, fc⟩ := rd_fact hT0 hV f (1 + 1) o (t + 1) a q (by unfold lvOk; omega) e1 (by omega)
    have run : Ev (d + 6) 22 8 [vr (some 10), vi (nI o), vi 1, vi (nI u)] [] h = Ev (d + 6) 22 8 [vr (some 10), vi (nI o), vi (bI (q.1 = true)), vi (nI (u + 1))] [] h3 := by
      rw [B_22_8]
      simp (decide := true) (disch := (first | assumption | (simp only [Sh_setI, Sm_setI, Sh_setL, Sm_setL]; assumption) | omega)) only [n_Ole, show ¬ 160 ≤ u by omega, B_22_15, B_22_19 S, ca, B_22_26, B_22_29 S1, bI_True, bI_False, p_max, p_min, p_abs, Option.bind_some, Option.bind_none, Option.toList_some, Option.toList_none, List.cons_append, List.nil_append, bI_eq0, bI_ne0, bI_ne1, bI_eq1, bI_01, eq_self, true_or, or_true, and_true, true_and, false_and, and_false, false_or, or_false, ite_true, ite_false, if_true, if_false, not_true, not_false_iff, Classical.not_not, nem, ite_not, ne_eq]
      rw [show d + 2 + 3 = d + 5 from rfl, e2]
      simp (decide := true) (disch := (first | assumption | (simp only [Sh_setI, Sm_setI, Sh_setL, Sm_setL]; assumption) | omega)) only [B_22_34 S2, e3, B_22_42, n_addO, bI_True, bI_False, p_max, p_min, p_abs, Option.bind_some, Option.bind_none, Option.toList_some, Option.toList_none, List.cons_append, List.nil_append, bI_eq0, bI_ne0, bI_ne1, bI_eq1, bI_01, eq_self, true_or, or_true, and_true, true_and, false_and, and_false, false_or, or_false, ite_true, ite_false, if_true, if_false, not_true, not_false_iff, Classical.not_not, nem, ite_not, ne_eq]
    rw [run]
    rcases hq with ⟨-, l4, -⟩ | ⟨w, -, e4⟩ | ⟨w, rfl⟩
    · exact absurd l4 (by decide)
    · rw [bI_T w]
      obtain ⟨g1, -⟩ := fc w
      have Ce := C3 q.2.2 (oTwo 0) (C2 w) (by omega) rfl
      obtain ⟨h4, e5, F4, r4⟩ := ((ih 11 o q.2.1 (q.2.2 ++ [oTwo 0]) r (by unfold lvOk; omega) e4 (by omega) (by rw [List.length_append]; show q.2.2.length + 1 ≤ _; omega) ho (d + 6) h3 (F3.sh S2) (K.fi F123) (by rw [qa3]; exact qa2) Ce hD).2.1 (u + 1) (by omega)).1 rfl
      exact ⟨h4, e5, F123.tr F4, r4⟩
    · have b0 : bI (r.1 = true) = 0 := bI_F (by rw [w]; decide)
      rw [b0]
      obtain ⟨n', hn', q3'⟩ := n3
      refine ⟨h3, ?_, F123, by rw [qa3]; exact qa2, fun z => absurd z (by rw [w]; decide), n', hn', q3'⟩
      rw [b0, B_22_8]
      by_cases u6 : 160 ≤ u + 1
      · simp (decide := true) (disch := (first | assumption | (simp only [Sh_setI, Sm_setI, Sh_setL, Sm_setL]; assumption) | omega)) only [n_Ole, u6, B_22_48, bI_True, bI_False, p_max, p_min, p_abs, Option.bind_some, Option.bind_none, Option.toList_some, Option.toList_none, List.cons_append, List.nil_append, bI_eq0, bI_ne0, bI_ne1, bI_eq1, bI_01, eq_self, true_or, or_true, and_true, true_and, false_and, and_false, false_or, or_false, ite_true, ite_false, if_true, if_false, not_true, not_false_iff, Classical.not_not, nem, ite_not, ne_eq]
      · simp (decide := true) (disch := (first | assumption | (simp only [Sh_setI, Sm_setI, Sh_setL, Sm_setL]; assumption) | omega)) only [n_Ole, u6, B_22_15, B_22_48, bI_True, bI_False, p_max, p_min, p_abs, Option.bind_some, Option.bind_none, Option.toList_some, Option.toList_none, List.cons_append, List.nil_append, bI_eq0, bI_ne0, bI_ne1, bI_eq1, bI_01, eq_self, true_or, or_true, and_true, true_and, false_and, and_false, false_or, or_false, ite_true, ite_false, if_true, if_false, not_true, not_false_iff, Classical.not_not, nem, ite_not, ne_eq]
theorem c_up1 {T V : Nat → Nat} {N f : Nat} (hN : N ≤ 160) (hT0 : ∀ t, N ≤ t → T t = 0) (hV : ∀ k, T k = 1 → V k ≤ 9999) (ih : RdI T V N f) {o t : Nat} {a : List tOp} {r : tRs} (e : rd T V (f + 1) 1 o t a = some r) (ht : t ≤ N) (ha : a.length ≤ t) (ho : o ≤ 5) {D : Nat} {h : am_H} (S : Sh h) (K : Tk T V N h) (qa : hI h 10 1 = nI t) (C : Co a h) (hD : dmT 1 o ≤ D) : Rn r h (Cl D 22 [vr (some 10), vi (nI o)] h) := by
  obtain ⟨d, rfl⟩ : ∃ d, D = d + 6 := ⟨D - 6, by unfold dmT at hD; omega⟩
  obtain ⟨q, e1, hq⟩ := rd_up (l := 1) (by omega) e
  obtain ⟨fa, fb, fc⟩ := rd_fact hT0 hV f (1 + 1) o t a q (by unfold lvOk; omega) e1 ht
  obtain ⟨h2, e2, F2, qa2, C2, n2, hn2, q32⟩ := (ih (1 + 1) o t a q (by unfold lvOk; omega) e1 ht ha ho (d + 5) h S K qa C (by rw [if_pos (by decide)]; unfold dmT at hD ⊢; omega)).1 (by omega) (by omega)
  have run : Cl (d + 6) 22 [vr (some 10), vi (nI o)] h = Ev (d + 6) 22 8 [vr (some 10), vi (nI o), vi (bI (q.1 = true)), vi (nI 0)] [] h2 := by
    rw [E_22, B_22_0 S, show d + 2 + 3 = d + 5 from rfl, e2]
    simp (decide := true) (disch := (first | assumption | (simp only [Sh_setI, Sm_setI, Sh_setL, Sm_setL]; assumption) | omega)) only [B_22_5, bI_True, bI_False, p_max, p_min, p_abs, Option.bind_some, Option.bind_none, Option.toList_some, Option.toList_none, List.cons_append, List.nil_append, bI_eq0, bI_ne0, bI_ne1, bI_eq1, bI_01, eq_self, true_or, or_true, and_true, true_and, false_and, and_false, false_or, or_false, ite_true, ite_false, if_true, if_false, not_true, not_false_iff, Classical.not_not, nem, ite_not, ne_eq]
    rfl
  rw [run]
  rcases hq with ⟨w, e4⟩ | ⟨w, rfl⟩
  · rw [bI_T w]
    obtain ⟨g1, -⟩ := fc w
    obtain ⟨h4, e5, F4, r4⟩ := ((ih 11 o q.2.1 q.2.2 r (by unfold lvOk; omega) e4 fb (by omega) ho (d + 6) h2 (F2.sh S) (K.fi F2) qa2 (C2 w) hD).2.1 0 (by omega)).1 rfl
    exact ⟨h4, e5, F2.tr F4, r4⟩
  · have b0 : bI (r.1 = true) = 0 := bI_F (by rw [w]; decide)
    refine ⟨h2, ?_, F2, qa2, C2, n2, hn2, q32⟩
    rw [b0, B_22_8]
    simp (decide := true) (disch := (first | assumption | (simp only [Sh_setI, Sm_setI, Sh_setL, Sm_setL]; assumption) | omega)) only [n_Ole, B_22_15, B_22_48, bI_True, bI_False, p_max, p_min, p_abs, Option.bind_some, Option.bind_none, Option.toList_some, Option.toList_none, List.cons_append, List.nil_append, bI_eq0, bI_ne0, bI_ne1, bI_eq1, bI_01, eq_self, true_or, or_true, and_true, true_and, false_and, and_false, false_or, or_false, ite_true, ite_false, if_true, if_false, not_true, not_false_iff, Classical.not_not, nem, ite_not, ne_eq]

theorem c_lp2 {T V : Nat → Nat} {N f : Nat} (hN : N ≤ 160) (hT0 : ∀ t, N ≤ t → T t = 0) (hTb : ∀ t, T t < 200) (hV : ∀ k, T k = 1 → V k ≤ 9999) (ih : RdI T V N f) {o t : Nat} {a : List tOp} {r : tRs} (e : rd T V (f + 1) 12 o t a = some r) (ht : t ≤ N) (ha : a.length ≤ t) (ho : o ≤ 5) {D : Nat} {h : am_H} (S : Sh h) (K : Tk T V N h) (qa : hI h 10 1 = nI t) (C : Co a h) (hD : dmT 2 o ≤ D) {u : Nat} (hu : u ≤ t) : Rn r h (Ev D 23 8 [vr (some 10), vi (nI o), vi 1, vi (nI u)] [] h) := by
  obtain ⟨d, rfl⟩ : ∃ d, D = d + 6 := ⟨D - 6, by unfold dmT at hD; omega⟩
  have kt := (K t ht).1
  have tb := hTb t
  have lt : T t ≠ 0 → t < N := fun h => Classical.byContradiction fun w => h (hT0 t (by omega))
  rcases rd_lp (l := 2) (by omega) e with ⟨es, rfl⟩ | ⟨b, q, es, e1, hq⟩
  · have cn := sg2_n2 es
    refine ⟨h, ?_, Fi.rf, qa, fun _ => C, a.length, by omega, C.1⟩
    have ca := fun d => c_accF (d := d) S qa (by omega) kt (w := 131) (by rw [n_eqO (by omega) (by decide)]; exact cn)
    rw [B_23_8]
    by_cases u6 : u = 160
    · simp (decide := true) (disch := (first | assumption | (simp only [Sh_setI, Sm_setI, Sh_setL, Sm_setL]; assumption) | omega)) only [n_Ole, show 160 ≤ u by omega, B_23_48, bI_True, bI_False, p_max, p_min, p_abs, Option.bind_some, Option.bind_none, Option.toList_some, Option.toList_none, List.cons_append, List.nil_append, bI_eq0, bI_ne0, bI_ne1, bI_eq1, bI_01, eq_self, true_or, or_true, and_true, true_and, false_and, and_false, false_or, or_false, ite_true, ite_false, if_true, if_false, not_true, not_false_iff, Classical.not_not, nem, ite_not, ne_eq]
    · simp (decide := true) (disch := (first | assumption | (simp only [Sh_setI, Sm_setI, Sh_setL, Sm_setL]; assumption) | omega)) only [n_Ole, show ¬ 160 ≤ u by omega, B_23_15, B_23_19 S, ca, B_23_26, B_23_48, bI_True, bI_False, p_max, p_min, p_abs, Option.bind_some, Option.bind_none, Option.toList_some, Option.toList_none, List.cons_append, List.nil_append, bI_eq0, bI_ne0, bI_ne1, bI_eq1, bI_01, eq_self, true_or, or_true, and_true, true_and, false_and, and_false, false_or, or_false, ite_true, ite_false, if_true, if_false, not_true, not_false_iff, Classical.not_not, nem, ite_not, ne_eq]
  · obtain ⟨cy, rfl⟩ := sg2_y2 es
    have tN := lt (by omega)
    have ca := fun d => c_accT (d := d) S qa (by omega) kt (w := 131) (by rw [cy]; rfl)
    have S1 : Sh (setI h 10 1 (nI (t + 1))) := S.si
    have F1 : Fi (fun a => a = 10 ∨ a = 16) h (setI h 10 1 (nI (t + 1))) := Fi.rf.si (Or.inl rfl)
    obtain ⟨h2, e2, F2, qa2, C2, n2, hn2, q32⟩ := (ih (2 + 1) o (t + 1) a q (by unfold lvOk; omega) e1 (by omega) (by omega) ho (d + 5) _ S1 (K.fi F1) (by rw [hI_eq, if_pos rfl]) (C.s1) (by rw [if_pos (by decide)]; unfold dmT at hD ⊢; omega)).1 (by omega) (by omega)
    have S2 := F2.sh S1
    obtain ⟨h3, e3, F3, qa3, n3, C3⟩ := c_emit (d := d + 1) S2 hn2 q32 (v := -131)
    have F123 := (F1.tr F2).tr F3
    obtain ⟨fa, fb, fc⟩ := rd_fact hT0 hV f (2 + 1) o (t + 1) a q (by unfold lvOk; omega) e1 (by omega)
    have run : Ev (d + 6) 23 8 [vr (some 10), vi (nI o), vi 1, vi (nI u)] [] h = Ev (d + 6) 23 8 [vr (some 10), vi (nI o), vi (bI (q.1 = true)), vi (nI (u + 1))] [] h3 := by
      rw [B_23_8]
      simp (decide := true) (disch := (first | assumption | (simp only [Sh_setI, Sm_setI, Sh_setL, Sm_setL]; assumption) | omega)) only [n_Ole, show ¬ 160 ≤ u by omega, B_23_15, B_23_19 S, ca, B_23_26, B_23_29 S1, bI_True, bI_False, p_max, p_min, p_abs, Option.bind_some, Option.bind_none, Option.toList_some, Option.toList_none, List.cons_append, List.nil_append, bI_eq0, bI_ne0, bI_ne1, bI_eq1, bI_01, eq_self, true_or, or_true, and_true, true_and, false_and, and_false, false_or, or_false, ite_true, ite_false, if_true, if_false, not_true, not_false_iff, Classical.not_not, nem, ite_not, ne_eq]
      rw [show d + 2 + 3 = d + 5 from rfl, e2]
      simp (decide := true) (disch := (first | assumption | (simp only [Sh_setI, Sm_setI, Sh_setL, Sm_setL]; assumption) | omega)) only [B_23_34 S2, e3, B_23_42, n_addO, bI_True, bI_False, p_max, p_min, p_abs, Option.bind_some, Option.bind_none, Option.toList_some, Option.toList_none, List.cons_append, List.nil_append, bI_eq0, bI_ne0, bI_ne1, bI_eq1, bI_01, eq_self, true_or, or_true, and_true, true_and, false_and, and_false, false_or, or_false, ite_true, ite_false, if_true, if_false, not_true, not_false_iff, Classical.not_not, nem, ite_not, ne_eq]
    rw [run]
    rcases hq with ⟨-, l4, -⟩ | ⟨w, -, e4⟩ | ⟨w, rfl⟩
    · exact absurd l4 (by decide)
    · rw [bI_T w]
      obtain ⟨g1, -⟩ := fc w
      have Ce := C3 q.2.2 (oTwo 1) (C2 w) (by omega) rfl
      obtain ⟨h4, e5, F4, r4⟩ := ((ih 12 o q.2.1 (q.2.2 ++ [oTwo 1]) r (by unfold lvOk; omega) e4 (by omega) (by rw [List.length_append]; show q.2.2.length + 1 ≤ _; omega) ho (d + 6) h3 (F3.sh S2) (K.fi F123) (by rw [qa3]; exact qa2) Ce hD).2.1 (u + 1) (by omega)).2.1 rfl
      exact ⟨h4, e5, F123.tr F4, r4⟩
    · have b0 : bI (r.1 = true) = 0 := bI_F (by rw [w]; decide)
      rw [b0]
      obtain ⟨n', hn', q3'⟩ := n3
      refine ⟨h3, ?_, F123, by rw [qa3]; exact qa2, fun z => absurd z (by rw [w]; decide), n', hn', q3'⟩
      rw [b0, B_23_8]
      by_cases u6 : 160 ≤ u + 1
      · simp (decide := true) (disch := (first | assumption | (simp only [Sh_setI, Sm_setI, Sh_setL, Sm_setL]; assumption) | omega)) only [n_Ole, u6, B_23_48, bI_True, bI_False, p_max, p_min, p_abs, Option.bind_some, Option.bind_none, Option.toList_some, Option.toList_none, List.cons_append, List.nil_append, bI_eq0, bI_ne0, bI_ne1, bI_eq1, bI_01, eq_self, true_or, or_true, and_true, true_and, false_and, and_false, false_or, or_false, ite_true, ite_false, if_true, if_false, not_true, not_false_iff, Classical.not_not, nem, ite_not, ne_eq]
      · simp (decide := true) (disch := (first | assumption | (simp only [Sh_setI, Sm_setI, Sh_setL, Sm_setL]; assumption) | omega)) only [n_Ole, u6, B_23_15, B_23_48, bI_True, bI_False, p_max, p_min, p_abs, Option.bind_some, Option.bind_none, Option.toList_some, Option.toList_none, List.cons_append, List.nil_append, bI_eq0, bI_ne0, bI_ne1, bI_eq1, bI_01, eq_self, true_or, or_true, and_true, true_and, false_and, and_false, false_or, or_false, ite_true, ite_false, if_true, if_false, not_true, not_false_iff, Classical.not_not, nem, ite_not, ne_eq]
theorem c_up2 {T V : Nat → Nat} {N f : Nat} (hN : N ≤ 160) (hT0 : ∀ t, N ≤ t → T t = 0) (hV : ∀ k, T k = 1 → V k ≤ 9999) (ih : RdI T V N f) {o t : Nat} {a : List tOp} {r : tRs} (e : rd T V (f + 1) 2 o t a = some r) (ht : t ≤ N) (ha : a.length ≤ t) (ho : o ≤ 5) {D : Nat} {h : am_H} (S : Sh h) (K : Tk T V N h) (qa : hI h 10 1 = nI t) (C : Co a h) (hD : dmT 2 o ≤ D) : Rn r h (Cl D 23 [vr (some 10), vi (nI o)] h) := by
  obtain ⟨d, rfl⟩ : ∃ d, D = d + 6 := ⟨D - 6, by unfold dmT at hD; omega⟩
  obtain ⟨q, e1, hq⟩ := rd_up (l := 2) (by omega) e
  obtain ⟨fa, fb, fc⟩ := rd_fact hT0 hV f (2 + 1) o t a q (by unfold lvOk; omega) e1 ht
  obtain ⟨h2, e2, F2, qa2, C2, n2, hn2, q32⟩ := (ih (2 + 1) o t a q (by unfold lvOk; omega) e1 ht ha ho (d + 5) h S K qa C (by rw [if_pos (by decide)]; unfold dmT at hD ⊢; omega)).1 (by omega) (by omega)
  have run : Cl (d + 6) 23 [vr (some 10), vi (nI o)] h = Ev (d + 6) 23 8 [vr (some 10), vi (nI o), vi (bI (q.1 = true)), vi (nI 0)] [] h2 := by
    rw [E_23, B_23_0 S, show d + 2 + 3 = d + 5 from rfl, e2]
    simp (decide := true) (disch := (first | assumption | (simp only [Sh_setI, Sm_setI, Sh_setL, Sm_setL]; assumption) | omega)) only [B_23_5, bI_True, bI_False, p_max, p_min, p_abs, Option.bind_some, Option.bind_none, Option.toList_some, Option.toList_none, List.cons_append, List.nil_append, bI_eq0, bI_ne0, bI_ne1, bI_eq1, bI_01, eq_self, true_or, or_true, and_true, true_and, false_and, and_false, false_or, or_false, ite_true, ite_false, if_true, if_false, not_true, not_false_iff, Classical.not_not, nem, ite_not, ne_eq]
    rfl
  rw [run]
  rcases hq with ⟨w, e4⟩ | ⟨w, rfl⟩
  · rw [bI_T w]
    obtain ⟨g1, -⟩ := fc w
    obtain ⟨h4, e5, F4, r4⟩ := ((ih 12 o q.2.1 q.2.2 r (by unfold lvOk; omega) e4 fb (by omega) ho (d + 6) h2 (F2.sh S) (K.fi F2) qa2 (C2 w) hD).2.1 0 (by omega)).2.1 rfl
    exact ⟨h4, e5, F2.tr F4, r4⟩
  · have b0 : bI (r.1 = true) = 0 := bI_F (by rw [w]; decide)
    refine ⟨h2, ?_, F2, qa2, C2, n2, hn2, q32⟩
    rw [b0, B_23_8]
    simp (decide := true) (disch := (first | assumption | (simp only [Sh_setI, Sm_setI, Sh_setL, Sm_setL]; assumption) | omega)) only [n_Ole, B_23_15, B_23_48, bI_True, bI_False, p_max, p_min, p_abs, Option.bind_some, Option.bind_none, Option.toList_some, Option.toList_none, List.cons_append, List.nil_append, bI_eq0, bI_ne0, bI_ne1, bI_eq1, bI_01, eq_self, true_or, or_true, and_true, true_and, false_and, and_false, false_or, or_false, ite_true, ite_false, if_true, if_false, not_true, not_false_iff, Classical.not_not, nem, ite_not, ne_eq]

theorem c_lp6 {T V : Nat → Nat} {N f : Nat} (hN : N ≤ 160) (hT0 : ∀ t, N ≤ t → T t = 0) (hTb : ∀ t, T t < 200) (hV : ∀ k, T k = 1 → V k ≤ 9999) (ih : RdI T V N f) {o t : Nat} {a : List tOp} {r : tRs} (e : rd T V (f + 1) 16 o t a = some r) (ht : t ≤ N) (ha : a.length ≤ t) (ho : o ≤ 5) {D : Nat} {h : am_H} (S : Sh h) (K : Tk T V N h) (qa : hI h 10 1 = nI t) (C : Co a h) (hD : dmT 6 o ≤ D) {u : Nat} (hu : u ≤ t) : Rn r h (Ev D 27 8 [vr (some 10), vi (nI o), vi 1, vi (nI u)] [] h) := by
  obtain ⟨d, rfl⟩ : ∃ d, D = d + 6 := ⟨D - 6, by unfold dmT at hD; omega⟩
  have kt := (K t ht).1
  have tb := hTb t
  have lt : T t ≠ 0 → t < N := fun h => Classical.byContradiction fun w => h (hT0 t (by omega))
  rcases rd_lp (l := 6) (by omega) e with ⟨es, rfl⟩ | ⟨b, q, es, e1, hq⟩
  · have cn := sg2_n6 es
    refine ⟨h, ?_, Fi.rf, qa, fun _ => C, a.length, by omega, C.1⟩
    have ca := fun d => c_accF (d := d) S qa (by omega) kt (w := 42) (by rw [n_eqO (by omega) (by decide)]; exact cn)
    rw [B_27_8]
    by_cases u6 : u = 160
    · simp (decide := true) (disch := (first | assumption | (simp only [Sh_setI, Sm_setI, Sh_setL, Sm_setL]; assumption) | omega)) only [n_Ole, show 160 ≤ u by omega, B_27_46, bI_True, bI_False, p_max, p_min, p_abs, Option.bind_some, Option.bind_none, Option.toList_some, Option.toList_none, List.cons_append, List.nil_append, bI_eq0, bI_ne0, bI_ne1, bI_eq1, bI_01, eq_self, true_or, or_true, and_true, true_and, false_and, and_false, false_or, or_false, ite_true, ite_false, if_true, if_false, not_true, not_false_iff, Classical.not_not, nem, ite_not, ne_eq]
    · simp (decide := true) (disch := (first | assumption | (simp only [Sh_setI, Sm_setI, Sh_setL, Sm_setL]; assumption) | omega)) only [n_Ole, show ¬ 160 ≤ u by omega, B_27_15, B_27_19 S, ca, B_27_25, B_27_46, bI_True, bI_False, p_max, p_min, p_abs, Option.bind_some, Option.bind_none, Option.toList_some, Option.toList_none, List.cons_append, List.nil_append, bI_eq0, bI_ne0, bI_ne1, bI_eq1, bI_01, eq_self, true_or, or_true, and_true, true_and, false_and, and_false, false_or, or_false, ite_true, ite_false, if_true, if_false, not_true, not_false_iff, Classical.not_not, nem, ite_not, ne_eq]
  · obtain ⟨cy, rfl⟩ := sg2_y6 es
    have tN := lt (by omega)
    have ca := fun d => c_accT (d := d) S qa (by omega) kt (w := 42) (by rw [cy]; rfl)
    have S1 : Sh (setI h 10 1 (nI (t + 1))) := S.si
    have F1 : Fi (fun a => a = 10 ∨ a = 16) h (setI h 10 1 (nI (t + 1))) := Fi.rf.si (Or.inl rfl)
    obtain ⟨h2, e2, F2, qa2, C2, n2, hn2, q32⟩ := (ih (6 + 1) o (t + 1) a q (by unfold lvOk; omega) e1 (by omega) (by omega) ho (d + 5) _ S1 (K.fi F1) (by rw [hI_eq, if_pos rfl]) (C.s1) (by rw [if_pos (by decide)]; unfold dmT at hD ⊢; omega)).1 (by omega) (by omega)
    have S2 := F2.sh S1
    obtain ⟨h3, e3, F3, qa3, n3, C3⟩ := c_emit (d := d + 1) S2 hn2 q32 (v := -42)
    have F123 := (F1.tr F2).tr F3
    obtain ⟨fa, fb, fc⟩ := rd_fact hT0 hV f (6 + 1) o (t + 1) a q (by unfold lvOk; omega) e1 (by omega)
    have run : Ev (d + 6) 27 8 [vr (some 10), vi (nI o), vi 1, vi (nI u)] [] h = Ev (d + 6) 27 8 [vr (some 10), vi (nI o), vi (bI (q.1 = true)), vi (nI (u + 1))] [] h3 := by
      rw [B_27_8]
      simp (decide := true) (disch := (first | assumption | (simp only [Sh_setI, Sm_setI, Sh_setL, Sm_setL]; assumption) | omega)) only [n_Ole, show ¬ 160 ≤ u by omega, B_27_15, B_27_19 S, ca, B_27_25, B_27_28 S1, bI_True, bI_False, p_max, p_min, p_abs, Option.bind_some, Option.bind_none, Option.toList_some, Option.toList_none, List.cons_append, List.nil_append, bI_eq0, bI_ne0, bI_ne1, bI_eq1, bI_01, eq_self, true_or, or_true, and_true, true_and, false_and, and_false, false_or, or_false, ite_true, ite_false, if_true, if_false, not_true, not_false_iff, Classical.not_not, nem, ite_not, ne_eq]
      rw [show d + 2 + 3 = d + 5 from rfl, e2]
      simp (decide := true) (disch := (first | assumption | (simp only [Sh_setI, Sm_setI, Sh_setL, Sm_setL]; assumption) | omega)) only [B_27_33 S2, e3, B_27_40, n_addO, bI_True, bI_False, p_max, p_min, p_abs, Option.bind_some, Option.bind_none, Option.toList_some, Option.toList_none, List.cons_append, List.nil_append, bI_eq0, bI_ne0, bI_ne1, bI_eq1, bI_01, eq_self, true_or, or_true, and_true, true_and, false_and, and_false, false_or, or_false, ite_true, ite_false, if_true, if_false, not_true, not_false_iff, Classical.not_not, nem, ite_not, ne_eq]
    rw [run]
    rcases hq with ⟨-, l4, -⟩ | ⟨w, -, e4⟩ | ⟨w, rfl⟩
    · exact absurd l4 (by decide)
    · rw [bI_T w]
      obtain ⟨g1, -⟩ := fc w
      have Ce := C3 q.2.2 (oTwo 6) (C2 w) (by omega) rfl
      obtain ⟨h4, e5, F4, r4⟩ := ((ih 16 o q.2.1 (q.2.2 ++ [oTwo 6]) r (by unfold lvOk; omega) e4 (by omega) (by rw [List.length_append]; show q.2.2.length + 1 ≤ _; omega) ho (d + 6) h3 (F3.sh S2) (K.fi F123) (by rw [qa3]; exact qa2) Ce hD).2.1 (u + 1) (by omega)).2.2.1 rfl
      exact ⟨h4, e5, F123.tr F4, r4⟩
    · have b0 : bI (r.1 = true) = 0 := bI_F (by rw [w]; decide)
      rw [b0]
      obtain ⟨n', hn', q3'⟩ := n3
      refine ⟨h3, ?_, F123, by rw [qa3]; exact qa2, fun z => absurd z (by rw [w]; decide), n', hn', q3'⟩
      rw [b0, B_27_8]
      by_cases u6 : 160 ≤ u + 1
      · simp (decide := true) (disch := (first | assumption | (simp only [Sh_setI, Sm_setI, Sh_setL, Sm_setL]; assumption) | omega)) only [n_Ole, u6, B_27_46, bI_True, bI_False, p_max, p_min, p_abs, Option.bind_some, Option.bind_none, Option.toList_some, Option.toList_none, List.cons_append, List.nil_append, bI_eq0, bI_ne0, bI_ne1, bI_eq1, bI_01, eq_self, true_or, or_true, and_true, true_and, false_and, and_false, false_or, or_false, ite_true, ite_false, if_true, if_false, not_true, not_false_iff, Classical.not_not, nem, ite_not, ne_eq]
      · simp (decide := true) (disch := (first | assumption | (simp only [Sh_setI, Sm_setI, Sh_setL, Sm_setL]; assumption) | omega)) only [n_Ole, u6, B_27_15, B_27_46, bI_True, bI_False, p_max, p_min, p_abs, Option.bind_some, Option.bind_none, Option.toList_some, Option.toList_none, List.cons_append, List.nil_append, bI_eq0, bI_ne0, bI_ne1, bI_eq1, bI_01, eq_self, true_or, or_true, and_true, true_and, false_and, and_false, false_or, or_false, ite_true, ite_false, if_true, if_false, not_true, not_false_iff, Classical.not_not, nem, ite_not, ne_eq]
theorem c_up6 {T V : Nat → Nat} {N f : Nat} (hN : N ≤ 160) (hT0 : ∀ t, N ≤ t → T t = 0) (hV : ∀ k, T k = 1 → V k ≤ 9999) (ih : RdI T V N f) {o t : Nat} {a : List tOp} {r : tRs} (e : rd T V (f + 1) 6 o t a = some r) (ht : t ≤ N) (ha : a.length ≤ t) (ho : o ≤ 5) {D : Nat} {h : am_H} (S : Sh h) (K : Tk T V N h) (qa : hI h 10 1 = nI t) (C : Co a h) (hD : dmT 6 o ≤ D) : Rn r h (Cl D 27 [vr (some 10), vi (nI o)] h) := by
  obtain ⟨d, rfl⟩ : ∃ d, D = d + 6 := ⟨D - 6, by unfold dmT at hD; omega⟩
  obtain ⟨q, e1, hq⟩ := rd_up (l := 6) (by omega) e
  obtain ⟨fa, fb, fc⟩ := rd_fact hT0 hV f (6 + 1) o t a q (by unfold lvOk; omega) e1 ht
  obtain ⟨h2, e2, F2, qa2, C2, n2, hn2, q32⟩ := (ih (6 + 1) o t a q (by unfold lvOk; omega) e1 ht ha ho (d + 5) h S K qa C (by rw [if_pos (by decide)]; unfold dmT at hD ⊢; omega)).1 (by omega) (by omega)
  have run : Cl (d + 6) 27 [vr (some 10), vi (nI o)] h = Ev (d + 6) 27 8 [vr (some 10), vi (nI o), vi (bI (q.1 = true)), vi (nI 0)] [] h2 := by
    rw [E_27, B_27_0 S, show d + 2 + 3 = d + 5 from rfl, e2]
    simp (decide := true) (disch := (first | assumption | (simp only [Sh_setI, Sm_setI, Sh_setL, Sm_setL]; assumption) | omega)) only [B_27_5, bI_True, bI_False, p_max, p_min, p_abs, Option.bind_some, Option.bind_none, Option.toList_some, Option.toList_none, List.cons_append, List.nil_append, bI_eq0, bI_ne0, bI_ne1, bI_eq1, bI_01, eq_self, true_or, or_true, and_true, true_and, false_and, and_false, false_or, or_false, ite_true, ite_false, if_true, if_false, not_true, not_false_iff, Classical.not_not, nem, ite_not, ne_eq]
    rfl
  rw [run]
  rcases hq with ⟨w, e4⟩ | ⟨w, rfl⟩
  · rw [bI_T w]
    obtain ⟨g1, -⟩ := fc w
    obtain ⟨h4, e5, F4, r4⟩ := ((ih 16 o q.2.1 q.2.2 r (by unfold lvOk; omega) e4 fb (by omega) ho (d + 6) h2 (F2.sh S) (K.fi F2) qa2 (C2 w) hD).2.1 0 (by omega)).2.2.1 rfl
    exact ⟨h4, e5, F2.tr F4, r4⟩
  · have b0 : bI (r.1 = true) = 0 := bI_F (by rw [w]; decide)
    refine ⟨h2, ?_, F2, qa2, C2, n2, hn2, q32⟩
    rw [b0, B_27_8]
    simp (decide := true) (disch := (first | assumption | (simp only [Sh_setI, Sm_setI, Sh_setL, Sm_setL]; assumption) | omega)) only [n_Ole, B_27_15, B_27_46, bI_True, bI_False, p_max, p_min, p_abs, Option.bind_some, Option.bind_none, Option.toList_some, Option.toList_none, List.cons_append, List.nil_append, bI_eq0, bI_ne0, bI_ne1, bI_eq1, bI_01, eq_self, true_or, or_true, and_true, true_and, false_and, and_false, false_or, or_false, ite_true, ite_false, if_true, if_false, not_true, not_false_iff, Classical.not_not, nem, ite_not, ne_eq]
