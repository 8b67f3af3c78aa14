/-! place: the class's hours, sorted and judged -/
def Od (n : Nat) (f : am_F) : Prop := List.Perm (hlL f n) (hlL (fun k => nI k) n)
theorem Od.ix {n : Nat} {f : am_F} (O : Od n f) : (∀ k, k < n → ∃ q, q < n ∧ f k = nI q) ∧ ∀ q, q < n → ∃ k, k < n ∧ f k = nI q := by
  refine ⟨fun k hk => ?_, fun q hq => ?_⟩
  · have : f k ∈ hlL f n := List.mem_map.mpr ⟨k, List.mem_range.mpr hk, rfl⟩
    obtain ⟨q, hq, e⟩ := List.mem_map.mp (O.mem_iff.mp this)
    exact ⟨q, List.mem_range.mp hq, e.symm⟩
  · have : nI q ∈ hlL (fun k => nI k) n := List.mem_map.mpr ⟨q, List.mem_range.mpr hq, rfl⟩
    obtain ⟨k, hk, e⟩ := List.mem_map.mp (O.mem_iff.mpr this)
    exact ⟨k, List.mem_range.mp hk, e⟩
def allOk (m : am_M) (p i : Nat) (L : List Nat) : Bool := L.all (fun c => !decide (dueP m p i c = -1))
section PLACE3
variable {d : Nat} {h : am_H} {m : am_M}
theorem c_hours (S : Sh h) (I : Inv m) {v : Int32} {L : List Nat} (hL : ∀ c, c ∈ L → c < yC m) (hn : L.length ≤ 40) (P : Pc m v L h) {i : Nat} (D : Pd m i L h) (O : Od L.length (hI h 23)) {p : Nat} (hp : p < 360) : ∃ h1, Cl (d + 10) 99 [vr (some 19), vi (nI p)] h = some (some (vi (bI (allOk m p i L = true))), h1) ∧ Fi (fun a => a = 24) h h1 ∧ (allOk m p i L = true → ∀ k, k < L.length → hI h1 24 k = hrF m v p i (L.getD (cl (hI h 23 k)) 0)) := by
  have go : ∀ (j k : Nat) (h' : am_H) (a3 a4 : am_V), k + j = L.length → Fi (fun a => a = 24) h h' → (∀ q, q < k → ¬ dueP m p i (L.getD (cl (hI h 23 q)) 0) = -1 ∧ hI h' 24 q = hrF m v p i (L.getD (cl (hI h 23 q)) 0)) → ∃ h1 r, Ev (d + 10) 99 2 [vr (some 19), vi (nI p), vi (nI k), a3, a4] [] h' = some (some (vi r), h1) ∧ Fi (fun a => a = 24) h h1 ∧ ((r = 1 ∧ ∀ q, q < L.length → ¬ dueP m p i (L.getD (cl (hI h 23 q)) 0) = -1 ∧ hI h1 24 q = hrF m v p i (L.getD (cl (hI h 23 q)) 0)) ∨ (r = 0 ∧ ∃ q, q < L.length ∧ dueP m p i (L.getD (cl (hI h 23 q)) 0) = -1)) := by
    intro j
    induction j with
    | zero =>
      intro k h' a3 a4 e F v'
      have S' := F.sh S
      have q3 : hI h' 19 3 = nI L.length := by rw [F.2.2.2.2.2 19 (by omega)]; exact P.1
      refine ⟨h', 1, ?_, F, Or.inl ⟨rfl, fun q hq => v' q (by omega)⟩⟩
      rw [B_99_2 S']
      simp (decide := true) (disch := (first | assumption | (simp only [Sh_setI, Sm_setI, Sh_setL, Sm_setL]; assumption) | omega)) only [q3, n_le, show L.length ≤ k by omega, B_99_70, bI_True, bI_False, p_max, p_min, p_abs, Option.bind_some, Option.bind_none, Option.toList_some, Option.toList_none, List.cons_append, List.nil_append, bI_eq0, bI_ne0, bI_ne1, bI_eq1, bI_01, eq_self, true_or, or_true, and_true, true_and, false_and, and_false, false_or, or_false, ite_true, ite_false, if_true, if_false, not_true, not_false_iff, Classical.not_not, nem, ite_not, ne_eq]
    | succ j ih =>
      intro k h' a3 a4 e F v'
      have S' := F.sh S
      have st := F.2.2.2.2.2
      have q3 : hI h' 19 3 = nI L.length := by rw [st 19 (by omega)]; exact P.1
      obtain ⟨q, hq, eq⟩ := O.ix.1 k (by omega)
      have eL : L[q]? = some (L.getD q 0) := by
        rw [List.getD_eq_getElem?_getD, List.getElem?_eq_getElem hq]; rfl
      have eK : L.getD (cl (hI h 23 k)) 0 = L.getD q 0 := by rw [eq, cl, n_cl (by omega)]
      obtain ⟨p1, p2, p3, p4⟩ := P.2 q _ eL
      have hm := List.mem_of_getElem? eL
      have dd := D _ hm
      have J := card_int I (hL _ hm)
      have vk := v' 
      generalize L.getD q 0 = c at *
      obtain ⟨⟨kd, hkd', ekd⟩, -, -, ⟨pd, hpd, epd⟩, -⟩ := J
      have ekd2 : cl (m 65 c) = kd := by rw [ekd, cl, n_cl (by omega)]
      have epd2 : cl (m 59 (yDr m c)) = pd := by rw [epd, cl, n_cl (by omega)]
      obtain ⟨r1, r2, r3⟩ := sh_du S' hkd'
      have a180 := apN_le hp hpd
      have ea := fun d => c_apart (d := d) (h := h') hp hpd
      have ed : hI h' (27 + kd) (apN p pd) = dueP m p i c := by
        rw [st (27 + kd) (by omega)]
        have := dd (apN p pd) a180
        rw [ekd2] at this
        unfold dueP
        rw [ekd2, epd2]
        exact this
      have e23 : hI h' 23 k = nI q := by rw [st 23 (by omega)]; exact eq
      have e20 : hI h' 20 q = nI kd := by rw [st 20 (by omega), p1]; exact ekd
      have e21 : hI h' 21 q = nI pd := by rw [st 21 (by omega), p2]; exact epd
      have e22 : hI h' 22 q = timeF m c v - m 60 (yDr m c) := by rw [st 22 (by omega)]; exact p3
      by_cases g : dueP m p i c = -1
      · refine ⟨h', 0, ?_, F, Or.inr ⟨rfl, k, by omega, by rw [eK]; exact g⟩⟩
        rw [B_99_2 S']
        simp (decide := true) (disch := (first | assumption | (simp only [Sh_setI, Sm_setI, Sh_setL, Sm_setL]; assumption) | omega)) only [q3, n_le, show ¬ L.length ≤ k by omega, B_99_10 S', n_ix, n_cl, e23, e20, e21, ea, r1, B_99_38, r2, r3, ed, g, B_99_47, bI_True, bI_False, p_max, p_min, p_abs, Option.bind_some, Option.bind_none, Option.toList_some, Option.toList_none, List.cons_append, List.nil_append, bI_eq0, bI_ne0, bI_ne1, bI_eq1, bI_01, eq_self, true_or, or_true, and_true, true_and, false_and, and_false, false_or, or_false, ite_true, ite_false, if_true, if_false, not_true, not_false_iff, Classical.not_not, nem, ite_not, ne_eq]
      · obtain ⟨h1, r, e1, F1, v1⟩ := ih (k + 1) (setI h' 24 k (timeF m c v - m 60 (yDr m c) - dueP m p i c)) (vi (nI q)) (vi (dueP m p i c)) (by omega) (F.si rfl) (fun z hz => by
          by_cases w : z = k
          · rw [w, eK]
            exact ⟨g, by rw [hI_eq, if_pos rfl]; rfl⟩
          · rw [hI_eq, if_neg w]; exact v' z (by omega))
        refine ⟨h1, r, ?_, F1, v1⟩
        rw [B_99_2 S']
        simp (decide := true) (disch := (first | assumption | (simp only [Sh_setI, Sm_setI, Sh_setL, Sm_setL]; assumption) | omega)) only [q3, n_le, show ¬ L.length ≤ k by omega, B_99_10 S', n_ix, n_cl, e23, e20, e21, ea, r1, B_99_38, r2, r3, ed, g, B_99_49 S', e22, n_addO, bI_True, bI_False, p_max, p_min, p_abs, Option.bind_some, Option.bind_none, Option.toList_some, Option.toList_none, List.cons_append, List.nil_append, bI_eq0, bI_ne0, bI_ne1, bI_eq1, bI_01, eq_self, true_or, or_true, and_true, true_and, false_and, and_false, false_or, or_false, ite_true, ite_false, if_true, if_false, not_true, not_false_iff, Classical.not_not, nem, ite_not, ne_eq]
        exact e1
  obtain ⟨h1, r, e1, F1, v1⟩ := go L.length 0 h vu vu (by omega) Fi.rf (fun q hq => absurd hq (by omega))
  have er : r = bI (allOk m p i L = true) ∧ (allOk m p i L = true → ∀ k, k < L.length → hI h1 24 k = hrF m v p i (L.getD (cl (hI h 23 k)) 0)) := by
    rcases v1 with ⟨w, v1⟩ | ⟨w, q, hq, v1⟩
    · have : allOk m p i L = true := by
        unfold allOk
        rw [List.all_eq_true]
        intro c hc
        obtain ⟨z, hz⟩ := List.getElem?_of_mem hc
        have hz2 := (List.getElem?_eq_some_iff.mp hz).1
        obtain ⟨k, hk, ek⟩ := O.ix.2 z hz2
        have := (v1 k hk).1
        rw [ek, cl, n_cl (by omega), List.getD_eq_getElem?_getD, hz] at this
        simp only [Option.getD_some] at this
        simp [this]
      exact ⟨by rw [w, bI_T this], fun _ k hk => (v1 k hk).2⟩
    · have : ¬ allOk m p i L = true := by
        unfold allOk
        rw [List.all_eq_true]
        intro al
        obtain ⟨z, hz, ez⟩ := O.ix.1 q hq
        rw [ez, cl, n_cl (by omega)] at v1
        have eL : L[z]? = some (L.getD z 0) := by
          rw [List.getD_eq_getElem?_getD, List.getElem?_eq_getElem hz]; rfl
        have := al _ (List.mem_of_getElem? eL)
        rw [v1] at this
        exact absurd this (by decide)
      exact ⟨by rw [w, bI_F this], fun z => absurd z this⟩
  refine ⟨h1, ?_, F1, er.2⟩
  rw [← er.1, E_99, B_99_0]
  exact e1
theorem ups_self {f : am_F} {k : Nat} : ups f k (f k) = f := by
  funext j
  unfold ups
  split
  · rename_i q; rw [q]
  · rfl
theorem c_insL {i : Nat} {card hour : Int32} : ∀ (j : Nat) (h' : am_H), Sh h' → j < 40 → ∃ h1, Ev (d + 4) 100 27 [vr (some 19), vi (nI i), vi card, vi hour, vi (nI j)] [] h' = Ev (d + 4) 100 83 [vr (some 19), vi (nI i), vi card, vi hour, vi (nI (insG (hI h' 23) (hI h' 24) hour j).1)] [] h1 ∧ Fi (fun a => a = 23 ∨ a = 24) h' h1 ∧ hI h1 23 = (insG (hI h' 23) (hI h' 24) hour j).2.1 ∧ hI h1 24 = (insG (hI h' 23) (hI h' 24) hour j).2.2 := by
  intro j
  induction j with
  | zero =>
    intro h' S' hj
    refine ⟨h', ?_, Fi.rf, rfl, rfl⟩
    rw [B_100_27]
    simp (decide := true) (disch := (first | assumption | (simp only [Sh_setI, Sm_setI, Sh_setL, Sm_setL]; assumption) | omega)) only [n_leO, insG, bI_True, bI_False, p_max, p_min, p_abs, Option.bind_some, Option.bind_none, Option.toList_some, Option.toList_none, List.cons_append, List.nil_append, bI_eq0, bI_ne0, bI_ne1, bI_eq1, bI_01, eq_self, true_or, or_true, and_true, true_and, false_and, and_false, false_or, or_false, ite_true, ite_false, if_true, if_false, not_true, not_false_iff, Classical.not_not, nem, ite_not, ne_eq]
  | succ j ih =>
    intro h' S' hj
    by_cases g : hI h' 24 j ≤ hour
    · refine ⟨h', ?_, Fi.rf, by rw [insG, if_pos g], by rw [insG, if_pos g]⟩
      rw [B_100_27, insG, if_pos g]
      simp (decide := true) (disch := (first | assumption | (simp only [Sh_setI, Sm_setI, Sh_setL, Sm_setL]; assumption) | omega)) only [n_leO, show ¬ j + 1 ≤ 0 by omega, B_100_32 S', n_subO, Nat.le_add_left, Nat.add_sub_cancel, n_ix, n_cl, g, bI_True, bI_False, p_max, p_min, p_abs, Option.bind_some, Option.bind_none, Option.toList_some, Option.toList_none, List.cons_append, List.nil_append, bI_eq0, bI_ne0, bI_ne1, bI_eq1, bI_01, eq_self, true_or, or_true, and_true, true_and, false_and, and_false, false_or, or_false, ite_true, ite_false, if_true, if_false, not_true, not_false_iff, Classical.not_not, nem, ite_not, ne_eq]
    · obtain ⟨h1, e1, F1, o1, o2⟩ := ih (setI (setI h' 23 (j + 1) (hI h' 23 j)) 24 (j + 1) (hI h' 24 j)) S'.si.si (by omega)
      have u1 : hI (setI (setI h' 23 (j + 1) (hI h' 23 j)) 24 (j + 1) (hI h' 24 j)) 23 = ups (hI h' 23) (j + 1) (hI h' 23 j) := by rw [hI_ne (by omega), ups_h]
      have u2 : hI (setI (setI h' 23 (j + 1) (hI h' 23 j)) 24 (j + 1) (hI h' 24 j)) 24 = ups (hI h' 24) (j + 1) (hI h' 24 j) := by rw [ups_h, hI_ne (by omega)]
      rw [u1, u2] at e1 o1 o2
      refine ⟨h1, ?_, Fi.tr (Fi.si (Fi.si (P := fun a => a = 23 ∨ a = 24) Fi.rf (Or.inl rfl)) (Or.inr rfl)) F1, by rw [insG, if_neg g]; exact o1, by rw [insG, if_neg g]; exact o2⟩
      rw [B_100_27, insG, if_neg g]
      simp (decide := true) (disch := (first | assumption | (simp only [Sh_setI, Sm_setI, Sh_setL, Sm_setL]; assumption) | omega)) only [n_leO, show ¬ j + 1 ≤ 0 by omega, B_100_32 S', n_subO, Nat.le_add_left, Nat.add_sub_cancel, n_ix, n_cl, g, B_100_45 S', hI_ne, B_100_77, n_pm1, bI_True, bI_False, p_max, p_min, p_abs, Option.bind_some, Option.bind_none, Option.toList_some, Option.toList_none, List.cons_append, List.nil_append, bI_eq0, bI_ne0, bI_ne1, bI_eq1, bI_01, eq_self, true_or, or_true, and_true, true_and, false_and, and_false, false_or, or_false, ite_true, ite_false, if_true, if_false, not_true, not_false_iff, Classical.not_not, nem, ite_not, ne_eq]
      exact e1
theorem c_sort (S : Sh h) {n : Nat} (q3 : hI h 19 3 = nI n) (hn : n ≤ 40) (h1' : 1 ≤ n) : ∃ h1, Cl (d + 4) 100 [vr (some 19)] h = some (none, h1) ∧ Fi (fun a => a = 23 ∨ a = 24) h h1 ∧ srtd (hI h1 24) n ∧ List.Perm (plL (hI h1 23) (hI h1 24) n) (plL (hI h 23) (hI h 24) n) := by
  have go : ∀ (j i : Nat) (h' : am_H) (a2 a3 a4 : am_V), i + j = n → Fi (fun a => a = 23 ∨ a = 24) h h' → srtd (hI h' 24) i → List.Perm (plL (hI h' 23) (hI h' 24) n) (plL (hI h 23) (hI h 24) n) → ∃ h1, Ev (d + 4) 100 2 [vr (some 19), vi (nI i), a2, a3, a4] [] h' = some (none, h1) ∧ Fi (fun a => a = 23 ∨ a = 24) h h1 ∧ srtd (hI h1 24) n ∧ List.Perm (plL (hI h1 23) (hI h1 24) n) (plL (hI h 23) (hI h 24) n) := by
    intro j
    induction j with
    | zero =>
      intro i h' a2 a3 a4 e F s p
      have S' := F.sh S
      have q3' : hI h' 19 3 = nI n := by rw [F.2.2.2.2.2 19 (by omega)]; exact q3
      have : i = n := by omega
      subst this
      refine ⟨h', ?_, F, s, p⟩
      rw [B_100_2 S', q3']
      simp (decide := true) (disch := (first | assumption | (simp only [Sh_setI, Sm_setI, Sh_setL, Sm_setL]; assumption) | omega)) only [n_le, Nat.le_refl, B_100_105, bI_True, bI_False, p_max, p_min, p_abs, Option.bind_some, Option.bind_none, Option.toList_some, Option.toList_none, List.cons_append, List.nil_append, bI_eq0, bI_ne0, bI_ne1, bI_eq1, bI_01, eq_self, true_or, or_true, and_true, true_and, false_and, and_false, false_or, or_false, ite_true, ite_false, if_true, if_false, not_true, not_false_iff, Classical.not_not, nem, ite_not, ne_eq]
    | succ j ih =>
      intro i h' a2 a3 a4 e F s p
      have S' := F.sh S
      have q3' : hI h' 19 3 = nI n := by rw [F.2.2.2.2.2 19 (by omega)]; exact q3
      obtain ⟨h1, e1, F1, o1, o2⟩ := c_insL (d := d) (i := i) (card := hI h' 23 i) (hour := hI h' 24 i) i h' S' (by omega)
      have S1 := F1.sh S'
      obtain ⟨r1, r2, r3, r4⟩ := ins_ok (c := hI h' 23 i) (v := hI h' 24 i) (show i < n by omega) i (hI h' 23) (hI h' 24) (Nat.le_refl _) (fun a b hab hb ha hb2 => s a b hab (by omega)) (fun b h1 h2 => by omega)
      rw [ups_self, ups_self] at r3
      rw [← o1, ← o2] at r3
      rw [← o2] at r2
      generalize (insG (hI h' 23) (hI h' 24) (hI h' 24 i) i).1 = z at *
      have u1 : hI (setI (setI h1 23 z (hI h' 23 i)) 24 z (hI h' 24 i)) 23 = ups (hI h1 23) z (hI h' 23 i) := by rw [hI_ne (by omega), ups_h]
      have u2 : hI (setI (setI h1 23 z (hI h' 23 i)) 24 z (hI h' 24 i)) 24 = ups (hI h1 24) z (hI h' 24 i) := by rw [ups_h, hI_ne (by omega)]
      obtain ⟨h2, e2, F2, s2, p2⟩ := ih (i + 1) (setI (setI h1 23 z (hI h' 23 i)) 24 z (hI h' 24 i)) (vi (hI h' 23 i)) (vi (hI h' 24 i)) (vi (nI z)) (by omega) (((F.tr F1).si (Or.inl rfl)).si (Or.inr rfl)) (by rw [u2]; exact r2) (by rw [u1, u2]; exact r3.trans p)
      refine ⟨h2, ?_, F2, s2, p2⟩
      rw [B_100_2 S', q3']
      simp (decide := true) (disch := (first | assumption | (simp only [Sh_setI, Sm_setI, Sh_setL, Sm_setL]; assumption) | omega)) only [n_le, show ¬ n ≤ i by omega, B_100_10 S', n_ix, n_cl, bI_True, bI_False, p_max, p_min, p_abs, Option.bind_some, Option.bind_none, Option.toList_some, Option.toList_none, List.cons_append, List.nil_append, bI_eq0, bI_ne0, bI_ne1, bI_eq1, bI_01, eq_self, true_or, or_true, and_true, true_and, false_and, and_false, false_or, or_false, ite_true, ite_false, if_true, if_false, not_true, not_false_iff, Classical.not_not, nem, ite_not, ne_eq]
      refine e1.trans ?_
      simp (decide := true) (disch := (first | assumption | (simp only [Sh_setI, Sm_setI, Sh_setL, Sm_setL]; assumption) | omega)) only [B_100_83 S1, n_ix, n_cl, B_100_99, n_addO, bI_True, bI_False, p_max, p_min, p_abs, Option.bind_some, Option.bind_none, Option.toList_some, Option.toList_none, List.cons_append, List.nil_append, bI_eq0, bI_ne0, bI_ne1, bI_eq1, bI_01, eq_self, true_or, or_true, and_true, true_and, false_and, and_false, false_or, or_false, ite_true, ite_false, if_true, if_false, not_true, not_false_iff, Classical.not_not, nem, ite_not, ne_eq]
      exact e2
  obtain ⟨h1, e1, F1, s1, p1⟩ := go (n - 1) 1 h vu vu vu (by omega) Fi.rf (fun a b _ _ => by omega) (List.Perm.refl _)
  refine ⟨h1, ?_, F1, s1, p1⟩
  rw [E_100, B_100_0]
  exact e1
theorem lg_lt {x y : Int64} : (lg_cmp x y < 0) = (x < y) := propext (lg_cmp_lt x y)
theorem c_judge (S : Sh h) {n p : Nat} (q3 : hI h 19 3 = nI n) (hn : n ≤ 40) (h1' : 1 ≤ n) (hr : ∀ k, k < n → hrOk (hI h 24 k)) {x : Int32} : Cl (d + 4) 101 [vr (some 19), vi (nI p), vi x] h = some (none, if hI h 19 8 = 0 ∨ lI (offR (hI h 24) (hI h 24 ((n - 1) / 2)) n 0 0) < hL h 19 12 ∨ (lI (offR (hI h 24) (hI h 24 ((n - 1) / 2)) n 0 0) = hL h 19 12 ∧ ¬ hI h 19 9 ≤ nI p) then setL (setI (setI (setI (setI h 19 8 1) 19 9 (nI p)) 19 10 x) 19 11 (hI h 24 ((n - 1) / 2))) 19 12 (lI (offR (hI h 24) (hI h 24 ((n - 1) / 2)) n 0 0)) else h) := by
  have e2 : (nI n - 1) / 2 = nI ((n - 1) / 2) := by
    show (nI n - nI 1) / nI 2 = _
    rw [n_sub h1', pk_div (by omega) (by omega) (by omega)]
  have hm := hr ((n - 1) / 2) (by omega)
  have go : ∀ j k a, k + j = n → a ≤ 10400098 * k → Ev (d + 4) 101 20 [vr (some 19), vi (nI p), vi x, vi (hI h 24 ((n - 1) / 2)), vl (lI a), vu, vi (nI k)] [] h = Ev (d + 4) 101 53 [vr (some 19), vi (nI p), vi x, vi (hI h 24 ((n - 1) / 2)), vl (lI (offR (hI h 24) (hI h 24 ((n - 1) / 2)) j k a)), vu, vi (nI n)] [] h := by
    intro j
    induction j with
    | zero =>
      intro k a e _
      have : k = n := by omega
      subst this
      rw [B_101_20 S, q3]
      simp (decide := true) (disch := (first | assumption | (simp only [Sh_setI, Sm_setI, Sh_setL, Sm_setL]; assumption) | omega)) only [n_le, Nat.le_refl, offR, bI_True, bI_False, p_max, p_min, p_abs, Option.bind_some, Option.bind_none, Option.toList_some, Option.toList_none, List.cons_append, List.nil_append, bI_eq0, bI_ne0, bI_ne1, bI_eq1, bI_01, eq_self, true_or, or_true, and_true, true_and, false_and, and_false, false_or, or_false, ite_true, ite_false, if_true, if_false, not_true, not_false_iff, Classical.not_not, nem, ite_not, ne_eq]
    | succ j ih =>
      intro k a e ha
      obtain ⟨a1, -, a3⟩ := hr_abs (hr k (by omega)) hm
      have l1 : ∀ b, lI a + lI b = lI (a + b) := fun b => (Int64.ofNat_add a b).symm
      rw [B_101_20 S, q3]
      simp (decide := true) (disch := (first | assumption | (simp only [Sh_setI, Sm_setI, Sh_setL, Sm_setL]; assumption) | omega)) only [n_le, show ¬ n ≤ k by omega, B_101_29 S, n_ix, n_cl, a1, B_101_43, l_nI, l1, n_addO, offR, bI_True, bI_False, p_max, p_min, p_abs, Option.bind_some, Option.bind_none, Option.toList_some, Option.toList_none, List.cons_append, List.nil_append, bI_eq0, bI_ne0, bI_ne1, bI_eq1, bI_01, eq_self, true_or, or_true, and_true, true_and, false_and, and_false, false_or, or_false, ite_true, ite_false, if_true, if_false, not_true, not_false_iff, Classical.not_not, nem, ite_not, ne_eq]
      exact ih (k + 1) _ (by omega) (by omega)
  have g0 := go n 0 0 (by omega) (by omega)
  have h0 : Cl (d + 4) 101 [vr (some 19), vi (nI p), vi x] h = Ev (d + 4) 101 20 [vr (some 19), vi (nI p), vi x, vi (hI h 24 ((n - 1) / 2)), vl (lI 0), vu, vi (nI 0)] [] h := by
    simp (decide := true) (disch := (first | assumption | (simp only [Sh_setI, Sm_setI, Sh_setL, Sm_setL]; assumption) | omega)) only [E_101, B_101_0 S, q3, e2, n_ix, n_cl, bI_True, bI_False, p_max, p_min, p_abs, Option.bind_some, Option.bind_none, Option.toList_some, Option.toList_none, List.cons_append, List.nil_append, bI_eq0, bI_ne0, bI_ne1, bI_eq1, bI_01, eq_self, true_or, or_true, and_true, true_and, false_and, and_false, false_or, or_false, ite_true, ite_false, if_true, if_false, not_true, not_false_iff, Classical.not_not, nem, ite_not, ne_eq]
    rfl
  rw [h0, g0]
  generalize hI h 24 ((n - 1) / 2) = mid at *
  generalize offR (hI h 24) mid n 0 0 = off at *
  have S2 : Sh (setI (setI h 19 8 1) 19 9 (nI p)) := S.si.si
  have S3 : Sh (setI (setI (setI (setI h 19 8 1) 19 9 (nI p)) 19 10 x) 19 11 mid) := S2.si.si
  by_cases c1 : hI h 19 8 = 0
  · rw [if_pos (Or.inl c1)]
    simp (decide := true) (disch := (first | assumption | (simp only [Sh_setI, Sm_setI, Sh_setL, Sm_setL]; assumption) | omega)) only [B_101_53 S, c1, B_101_88 S, B_101_98 S2, B_101_108 S3, B_101_114, bI_True, bI_False, p_max, p_min, p_abs, Option.bind_some, Option.bind_none, Option.toList_some, Option.toList_none, List.cons_append, List.nil_append, bI_eq0, bI_ne0, bI_ne1, bI_eq1, bI_01, eq_self, true_or, or_true, and_true, true_and, false_and, and_false, false_or, or_false, ite_true, ite_false, if_true, if_false, not_true, not_false_iff, Classical.not_not, nem, ite_not, ne_eq]
  · by_cases c2 : lI off < hL h 19 12
    · rw [if_pos (Or.inr (Or.inl c2))]
      simp (decide := true) (disch := (first | assumption | (simp only [Sh_setI, Sm_setI, Sh_setL, Sm_setL]; assumption) | omega)) only [B_101_53 S, c1, B_101_60 S, lg_lt, c2, B_101_88 S, B_101_98 S2, B_101_108 S3, B_101_114, bI_True, bI_False, p_max, p_min, p_abs, Option.bind_some, Option.bind_none, Option.toList_some, Option.toList_none, List.cons_append, List.nil_append, bI_eq0, bI_ne0, bI_ne1, bI_eq1, bI_01, eq_self, true_or, or_true, and_true, true_and, false_and, and_false, false_or, or_false, ite_true, ite_false, if_true, if_false, not_true, not_false_iff, Classical.not_not, nem, ite_not, ne_eq]
    · by_cases c3 : lI off = hL h 19 12
      · by_cases c4 : hI h 19 9 ≤ nI p
        · rw [if_neg (fun w => by rcases w with w | w | w; exact c1 w; exact c2 w; exact w.2 c4)]
          simp (decide := true) (disch := (first | assumption | (simp only [Sh_setI, Sm_setI, Sh_setL, Sm_setL]; assumption) | omega)) only [B_101_53 S, c1, B_101_60 S, lg_lt, c2, Int64.lt_irrefl, B_101_70 S, lg_eq0, c3, B_101_80 S, c4, B_101_114, bI_True, bI_False, p_max, p_min, p_abs, Option.bind_some, Option.bind_none, Option.toList_some, Option.toList_none, List.cons_append, List.nil_append, bI_eq0, bI_ne0, bI_ne1, bI_eq1, bI_01, eq_self, true_or, or_true, and_true, true_and, false_and, and_false, false_or, or_false, ite_true, ite_false, if_true, if_false, not_true, not_false_iff, Classical.not_not, nem, ite_not, ne_eq]
        · rw [if_pos (Or.inr (Or.inr ⟨c3, c4⟩))]
          simp (decide := true) (disch := (first | assumption | (simp only [Sh_setI, Sm_setI, Sh_setL, Sm_setL]; assumption) | omega)) only [B_101_53 S, c1, B_101_60 S, lg_lt, c2, Int64.lt_irrefl, B_101_70 S, lg_eq0, c3, B_101_80 S, c4, B_101_88 S, B_101_98 S2, B_101_108 S3, B_101_114, bI_True, bI_False, p_max, p_min, p_abs, Option.bind_some, Option.bind_none, Option.toList_some, Option.toList_none, List.cons_append, List.nil_append, bI_eq0, bI_ne0, bI_ne1, bI_eq1, bI_01, eq_self, true_or, or_true, and_true, true_and, false_and, and_false, false_or, or_false, ite_true, ite_false, if_true, if_false, not_true, not_false_iff, Classical.not_not, nem, ite_not, ne_eq]
      · rw [if_neg (fun w => by rcases w with w | w | w; exact c1 w; exact c2 w; exact c3 w.1)]
        simp (decide := true) (disch := (first | assumption | (simp only [Sh_setI, Sm_setI, Sh_setL, Sm_setL]; assumption) | omega)) only [B_101_53 S, c1, B_101_60 S, lg_lt, c2, B_101_70 S, lg_eq0, c3, B_101_114, bI_True, bI_False, p_max, p_min, p_abs, Option.bind_some, Option.bind_none, Option.toList_some, Option.toList_none, List.cons_append, List.nil_append, bI_eq0, bI_ne0, bI_ne1, bI_eq1, bI_01, eq_self, true_or, or_true, and_true, true_and, false_and, and_false, false_or, or_false, ite_true, ite_false, if_true, if_false, not_true, not_false_iff, Classical.not_not, nem, ite_not, ne_eq]
end PLACE3
