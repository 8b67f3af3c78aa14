/-! place: the class's dues, hours -/
def dueM (m : am_M) (k : Nat) (f x : Int32) : Int32 := dueF (m 57) (m 58) (fun k => m 58 (5 + k)) (yN m) k f x
/-- what is due of a card's time at a place and a depth -/
def dueP (m : am_M) (p i c : Nat) : Int32 := dueM m (cl (m 65 c)) (nI (apN p (cl (m 59 (yDr m c))))) (nI (20 * i))
def hrF (m : am_M) (v : Int32) (p i c : Nat) : Int32 := timeF m c v - m 60 (yDr m c) - dueP m p i c
/-- the dues of a depth -/
def Pd (m : am_M) (i : Nat) (L : List Nat) (h : am_H) : Prop := ∀ c, c ∈ L → ∀ f, f ≤ 180 → hI h (27 + cl (m 65 c)) f = dueM m (cl (m 65 c)) (nI f) (nI (20 * i))
section PLACE2
variable {d : Nat} {h : am_H} {m : am_M}
theorem sh_du (S : Sh h) {k : Nat} (hk : k < 6) : hR h 26 k = some (27 + k) ∧ hkd h (27 + k) = 100 ∧ hln h (27 + k) = 181 := by
  match k, hk with
  | 0, _ => exact ⟨S.rf rfl rfl, S.kd rfl rfl, S.ln rfl rfl⟩
  | 1, _ => exact ⟨S.rf rfl rfl, S.kd rfl rfl, S.ln rfl rfl⟩
  | 2, _ => exact ⟨S.rf rfl rfl, S.kd rfl rfl, S.ln rfl rfl⟩
  | 3, _ => exact ⟨S.rf rfl rfl, S.kd rfl rfl, S.ln rfl rfl⟩
  | 4, _ => exact ⟨S.rf rfl rfl, S.kd rfl rfl, S.ln rfl rfl⟩
  | 5, _ => exact ⟨S.rf rfl rfl, S.kd rfl rfl, S.ln rfl rfl⟩
theorem c_dueM (S : Sh h) (I : Inv m) (B : CrB m h) {k : Nat} (hk : k < 6) {f x : Int32} : Cl (d + 6) 46 [vr (some 2), vi (nI k), vi f, vi x] h = some (some (vi (dueM m k f x)), h) := by
  obtain ⟨b1, b2, b3⟩ := B
  have hn : hI h 2 2 = nI (yN m) := b2.trans I.1.2.1.1
  have h5 : yN m ≤ 5 := I.1.2.1.2
  rw [c_dueOf S hn h5 hk]
  unfold dueM
  rw [dueF_cg (fun k hk => (b3 k (by omega)).1) (fun k hk => (b3 k (by omega)).2.1) (fun k hk => (b3 k (by omega)).2.2)]
theorem crB_fi {h' : am_H} {P : Nat → Prop} (B : CrB m h) (F : Fi P h h') (w : ¬ P 1 ∧ ¬ P 2 ∧ ¬ P 3 ∧ ¬ P 5 ∧ ¬ P 6) : CrB m h' := by
  obtain ⟨b1, b2, b3⟩ := B
  have st := F.2.2.2.2.2
  refine ⟨by rw [st 1 w.1]; exact b1, by rw [st 2 w.2.1]; exact b2, fun k hk => ?_⟩
  rw [st 3 w.2.2.1, st 5 w.2.2.2.1, st 6 w.2.2.2.2]
  exact b3 k hk
theorem c_due1 (S : Sh h) (I : Inv m) (B : CrB m h) {k i : Nat} (hk : k < 6) (hi : i < 5) (as : hI h 25 k = 1) : ∀ (j f : Nat) (h' : am_H), f + j = 181 → Fi (fun a => a = 27 + k) h h' → (∀ q, q < f → hI h' (27 + k) q = dueM m k (nI q) (nI (20 * i))) → ∃ h1, Ev (d + 10) 98 11 [vr (some 19), vr (some 2), vi (nI (20 * i)), vi (nI k), vi (nI f)] [] h' = Ev (d + 10) 98 51 [vr (some 19), vr (some 2), vi (nI (20 * i)), vi (nI k), vi (nI 181)] [] h1 ∧ Fi (fun a => a = 27 + k) h h1 ∧ ∀ q, q < 181 → hI h1 (27 + k) q = dueM m k (nI q) (nI (20 * i)) := by
  intro j
  induction j with
  | zero =>
    intro f h' e F v
    have : f = 181 := by omega
    subst this
    refine ⟨h', ?_, F, v⟩
    rw [B_98_11]
    simp (decide := true) (disch := (first | assumption | (simp only [Sh_setI, Sm_setI, Sh_setL, Sm_setL]; assumption) | omega)) only [n_Olt, bI_True, bI_False, p_max, p_min, p_abs, Option.bind_some, Option.bind_none, Option.toList_some, Option.toList_none, List.cons_append, List.nil_append, bI_eq0, bI_ne0, bI_ne1, bI_eq1, bI_01, eq_self, true_or, or_true, and_true, true_and, false_and, and_false, false_or, or_false, ite_true, ite_false, if_true, if_false, not_true, not_false_iff, Classical.not_not, nem, ite_not, ne_eq]
  | succ j ih =>
    intro f h' e F v
    have S' := F.sh S
    have B' := crB_fi B F (by omega)
    have as' : hI h' 25 k = 1 := by rw [F.2.2.2.2.2 25 (by omega)]; exact as
    obtain ⟨r1, r2, r3⟩ := sh_du S' hk
    have ed := fun d f x => c_dueM (d := d) S' I B' hk (f := f) (x := x)
    obtain ⟨h1, e1, F1, v1⟩ := ih (f + 1) (setI h' (27 + k) f (dueM m k (nI f) (nI (20 * i)))) (by omega) (F.si rfl) (fun q hq => by
      rw [hI_eq]
      by_cases w : q = f
      · rw [if_pos w, w]
      · rw [if_neg w]; exact v q (by omega))
    refine ⟨h1, ?_, F1, v1⟩
    rw [B_98_11]
    simp (decide := true) (disch := (first | assumption | (simp only [Sh_setI, Sm_setI, Sh_setL, Sm_setL]; assumption) | omega)) only [n_Olt, show ¬ 180 < f by omega, B_98_19 S', n_ix, n_cl, as', B_98_28 S', ed, r1, B_98_44, r2, r3, n_addO, bI_True, bI_False, p_max, p_min, p_abs, Option.bind_some, Option.bind_none, Option.toList_some, Option.toList_none, List.cons_append, List.nil_append, bI_eq0, bI_ne0, bI_ne1, bI_eq1, bI_01, eq_self, true_or, or_true, and_true, true_and, false_and, and_false, false_or, or_false, ite_true, ite_false, if_true, if_false, not_true, not_false_iff, Classical.not_not, nem, ite_not, ne_eq]
    exact e1
theorem c_due2 (S : Sh h) (I : Inv m) (B : CrB m h) {i : Nat} (hi : i < 5) : ∀ (j k : Nat) (h' : am_H) (a4 : am_V), k + j = 6 → Fi (fun a => 27 ≤ a ∧ a ≤ 32) h h' → (∀ z, z < k → hI h 25 z = 1 → ∀ q, q < 181 → hI h' (27 + z) q = dueM m z (nI q) (nI (20 * i))) → ∃ h1, Ev (d + 10) 98 2 [vr (some 19), vr (some 2), vi (nI (20 * i)), vi (nI k), a4] [] h' = some (none, h1) ∧ Fi (fun a => 27 ≤ a ∧ a ≤ 32) h h1 ∧ (∀ z, z < 6 → hI h 25 z = 1 → ∀ q, q < 181 → hI h1 (27 + z) q = dueM m z (nI q) (nI (20 * i))) := by
  intro j
  induction j with
  | zero =>
    intro k h' a4 e F v
    refine ⟨h', ?_, F, fun z hz => v z (by omega)⟩
    rw [B_98_2]
    simp (decide := true) (disch := (first | assumption | (simp only [Sh_setI, Sm_setI, Sh_setL, Sm_setL]; assumption) | omega)) only [n_Ole, show 6 ≤ k by omega, B_98_57, bI_True, bI_False, p_max, p_min, p_abs, Option.bind_some, Option.bind_none, Option.toList_some, Option.toList_none, List.cons_append, List.nil_append, bI_eq0, bI_ne0, bI_ne1, bI_eq1, bI_01, eq_self, true_or, or_true, and_true, true_and, false_and, and_false, false_or, or_false, ite_true, ite_false, if_true, if_false, not_true, not_false_iff, Classical.not_not, nem, ite_not, ne_eq]
  | succ j ih =>
    intro k h' a4 e F v
    have S' := F.sh S
    have B' := crB_fi B F (by omega)
    by_cases as : hI h 25 k = 1
    · have as' : hI h' 25 k = 1 := by rw [F.2.2.2.2.2 25 (by omega)]; exact as
      obtain ⟨h1, e1, F1, v1⟩ := c_due1 (d := d) S' I B' (show k < 6 by omega) hi as' 181 0 h' (by omega) Fi.rf (fun q hq => absurd hq (by omega))
      obtain ⟨h2, e2, F2, v2⟩ := ih (k + 1) h1 (vi (nI 181)) (by omega) (F.tr (F1.mono (fun n q => by omega))) (fun z hz a q hq => by
        by_cases w : z = k
        · rw [w]; exact v1 q hq
        · rw [F1.2.2.2.2.2 (27 + z) (by omega)]; exact v z (by omega) a q hq)
      refine ⟨h2, ?_, F2, v2⟩
      rw [B_98_2]
      simp (decide := true) (disch := (first | assumption | (simp only [Sh_setI, Sm_setI, Sh_setL, Sm_setL]; assumption) | omega)) only [n_Ole, show ¬ 6 ≤ k by omega, B_98_8, bI_True, bI_False, p_max, p_min, p_abs, Option.bind_some, Option.bind_none, Option.toList_some, Option.toList_none, List.cons_append, List.nil_append, bI_eq0, bI_ne0, bI_ne1, bI_eq1, bI_01, eq_self, true_or, or_true, and_true, true_and, false_and, and_false, false_or, or_false, ite_true, ite_false, if_true, if_false, not_true, not_false_iff, Classical.not_not, nem, ite_not, ne_eq]
      refine e1.trans ?_
      simp (decide := true) (disch := (first | assumption | (simp only [Sh_setI, Sm_setI, Sh_setL, Sm_setL]; assumption) | omega)) only [B_98_51, n_addO, bI_True, bI_False, p_max, p_min, p_abs, Option.bind_some, Option.bind_none, Option.toList_some, Option.toList_none, List.cons_append, List.nil_append, bI_eq0, bI_ne0, bI_ne1, bI_eq1, bI_01, eq_self, true_or, or_true, and_true, true_and, false_and, and_false, false_or, or_false, ite_true, ite_false, if_true, if_false, not_true, not_false_iff, Classical.not_not, nem, ite_not, ne_eq]
      exact e2
    · have vn : ∀ z, z < k + 1 → hI h 25 z = 1 → ∀ q, q < 181 → hI h' (27 + z) q = dueM m z (nI q) (nI (20 * i)) := fun z hz a q hq => by
        by_cases w : z = k
        · rw [w] at a; exact absurd a as
        · exact v z (by omega) a q hq
      by_cases a0 : hI h' 25 k = 0
      · obtain ⟨h2, e2, F2, v2⟩ := ih (k + 1) h' (vi 0) (by omega) F vn
        refine ⟨h2, ?_, F2, v2⟩
        rw [B_98_2]
        simp (decide := true) (disch := (first | assumption | (simp only [Sh_setI, Sm_setI, Sh_setL, Sm_setL]; assumption) | omega)) only [n_Ole, show ¬ 6 ≤ k by omega, B_98_8, B_98_11, B_98_19 S', n_ix, n_cl, a0, B_98_51, n_addO, bI_True, bI_False, p_max, p_min, p_abs, Option.bind_some, Option.bind_none, Option.toList_some, Option.toList_none, List.cons_append, List.nil_append, bI_eq0, bI_ne0, bI_ne1, bI_eq1, bI_01, eq_self, true_or, or_true, and_true, true_and, false_and, and_false, false_or, or_false, ite_true, ite_false, if_true, if_false, not_true, not_false_iff, Classical.not_not, nem, ite_not, ne_eq]
        exact e2
      · have go : ∀ (j f : Nat) (h'' : am_H), f + j = 181 → Fi (fun a => a = 27 + k) h' h'' → ∃ h1, Ev (d + 10) 98 11 [vr (some 19), vr (some 2), vi (nI (20 * i)), vi (nI k), vi (nI f)] [] h'' = Ev (d + 10) 98 51 [vr (some 19), vr (some 2), vi (nI (20 * i)), vi (nI k), vi (nI 181)] [] h1 ∧ Fi (fun a => a = 27 + k) h' h1 := by
          intro j
          induction j with
          | zero =>
            intro f h'' e G
            have : f = 181 := by omega
            subst this
            refine ⟨h'', ?_, G⟩
            rw [B_98_11]
            simp (decide := true) (disch := (first | assumption | (simp only [Sh_setI, Sm_setI, Sh_setL, Sm_setL]; assumption) | omega)) only [n_Olt, bI_True, bI_False, p_max, p_min, p_abs, Option.bind_some, Option.bind_none, Option.toList_some, Option.toList_none, List.cons_append, List.nil_append, bI_eq0, bI_ne0, bI_ne1, bI_eq1, bI_01, eq_self, true_or, or_true, and_true, true_and, false_and, and_false, false_or, or_false, ite_true, ite_false, if_true, if_false, not_true, not_false_iff, Classical.not_not, nem, ite_not, ne_eq]
          | succ j ih2 =>
            intro f h'' e G
            have S'' := G.sh S'
            have B'' := crB_fi B' G (by omega)
            have as'' : ¬ hI h'' 25 k = 0 := by rw [G.2.2.2.2.2 25 (by omega)]; exact a0
            obtain ⟨r1, r2, r3⟩ := sh_du S'' (show k < 6 by omega)
            have ed := fun d f x => c_dueM (d := d) S'' I B'' (show k < 6 by omega) (f := f) (x := x)
            obtain ⟨h1, e1, F1⟩ := ih2 (f + 1) (setI h'' (27 + k) f (dueM m k (nI f) (nI (20 * i)))) (by omega) (G.si rfl)
            refine ⟨h1, ?_, F1⟩
            rw [B_98_11]
            simp (decide := true) (disch := (first | assumption | (simp only [Sh_setI, Sm_setI, Sh_setL, Sm_setL]; assumption) | omega)) only [n_Olt, show ¬ 180 < f by omega, B_98_19 S'', n_ix, n_cl, as'', B_98_28 S'', ed, r1, B_98_44, r2, r3, n_addO, bI_True, bI_False, p_max, p_min, p_abs, Option.bind_some, Option.bind_none, Option.toList_some, Option.toList_none, List.cons_append, List.nil_append, bI_eq0, bI_ne0, bI_ne1, bI_eq1, bI_01, eq_self, true_or, or_true, and_true, true_and, false_and, and_false, false_or, or_false, ite_true, ite_false, if_true, if_false, not_true, not_false_iff, Classical.not_not, nem, ite_not, ne_eq]
            exact e1
        obtain ⟨h1, e1, F1⟩ := go 181 0 h' (by omega) Fi.rf
        obtain ⟨h2, e2, F2, v2⟩ := ih (k + 1) h1 (vi (nI 181)) (by omega) (F.tr (F1.mono (fun n q => by omega))) (fun z hz a q hq => by
          by_cases w : z = k
          · rw [w] at a; exact absurd a as
          · rw [F1.2.2.2.2.2 (27 + z) (by omega)]; exact v z (by omega) a q hq)
        refine ⟨h2, ?_, F2, v2⟩
        rw [B_98_2]
        simp (decide := true) (disch := (first | assumption | (simp only [Sh_setI, Sm_setI, Sh_setL, Sm_setL]; assumption) | omega)) only [n_Ole, show ¬ 6 ≤ k by omega, B_98_8, bI_True, bI_False, p_max, p_min, p_abs, Option.bind_some, Option.bind_none, Option.toList_some, Option.toList_none, List.cons_append, List.nil_append, bI_eq0, bI_ne0, bI_ne1, bI_eq1, bI_01, eq_self, true_or, or_true, and_true, true_and, false_and, and_false, false_or, or_false, ite_true, ite_false, if_true, if_false, not_true, not_false_iff, Classical.not_not, nem, ite_not, ne_eq]
        refine e1.trans ?_
        simp (decide := true) (disch := (first | assumption | (simp only [Sh_setI, Sm_setI, Sh_setL, Sm_setL]; assumption) | omega)) only [B_98_51, n_addO, bI_True, bI_False, p_max, p_min, p_abs, Option.bind_some, Option.bind_none, Option.toList_some, Option.toList_none, List.cons_append, List.nil_append, bI_eq0, bI_ne0, bI_ne1, bI_eq1, bI_01, eq_self, true_or, or_true, and_true, true_and, false_and, and_false, false_or, or_false, ite_true, ite_false, if_true, if_false, not_true, not_false_iff, Classical.not_not, nem, ite_not, ne_eq]
        exact e2
theorem c_tellDues (S : Sh h) (I : Inv m) (B : CrB m h) {v : Int32} {L : List Nat} (hL : ∀ c, c ∈ L → c < yC m) (P : Pc m v L h) {i : Nat} (hi : i < 5) : ∃ h1, Cl (d + 10) 98 [vr (some 19), vr (some 2), vi (nI (20 * i))] h = some (none, h1) ∧ Fi (fun a => 27 ≤ a ∧ a ≤ 32) h h1 ∧ Pd m i L h1 := by
  obtain ⟨h1, e1, F1, v1⟩ := c_due2 (d := d) S I B hi 6 0 h vu rfl Fi.rf (fun z hz => absurd hz (by omega))
  refine ⟨h1, ?_, F1, fun c hc f hf => ?_⟩
  · rw [E_98, B_98_0]; exact e1
  · obtain ⟨j, hj⟩ := List.getElem?_of_mem hc
    have J := card_int I (hL c hc)
    obtain ⟨kd, hkd', ekd⟩ := J.1
    have := (P.2 j c hj).2.2.2
    exact v1 _ (by rw [ekd, cl, n_cl (by omega)]; exact hkd') this f (by omega)
end PLACE2
