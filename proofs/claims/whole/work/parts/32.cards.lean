/-! cards: far, time, late, heard -/
def timeF (m : am_M) (c : Nat) (known : Int32) : Int32 := if m 71 c ≠ -1 ∧ m 71 c ≤ known then m 70 c else m 68 c
def farN (m : am_M) (c : Nat) : Nat := apN (cl (m 59 (yDr m c))) (cl (m 62 (ySh m c)))
def dueC (m : am_M) (c k : Nat) : Int32 := dueF (m 57) (m 58) (fun k => m 58 (5 + k)) (yN m) k (nI (farN m c)) (m 63 (ySh m c))
def lateF (m : am_M) (c k : Nat) (known : Int32) : Int32 := if dueC m c k = -1 then 1000000000 else timeF m c known - m 60 (yDr m c) - m 64 (ySh m c) - dueC m c k
def heardB (m : am_M) (c : Nat) (known : Int32) : Bool := decide (m 72 c = 0 ∧ m 69 c ≤ known)
/-- what is known of a card's cells -/
def Cd (m : am_M) (h : am_H) (c n dn sn : Nat) : Prop := (c < yC m ∧ c < 40) ∧ (hR h 9 c = some n ∧ hkd h n = 10 ∧ hR h n 3 = some dn ∧ hR h n 4 = some sn ∧ hkd h dn = 8 ∧ hkd h sn = 9) ∧ (hI h n 0 = m 65 c ∧ hI h n 1 = m 68 c ∧ hI h n 2 = m 69 c ∧ hI h n 5 = bI (m 71 c ≠ -1) ∧ hI h n 6 = m 72 c ∧ (m 71 c ≠ -1 → hI h n 7 = m 70 c ∧ hI h n 8 = m 71 c)) ∧ (hI h dn 0 = m 66 c ∧ hI h dn 1 = m 59 (yDr m c) ∧ hI h dn 2 = m 61 (yDr m c) ∧ hI h dn 3 = m 60 (yDr m c)) ∧ (hI h sn 0 = m 67 c ∧ hI h sn 1 = m 62 (ySh m c) ∧ hI h sn 2 = m 63 (ySh m c) ∧ hI h sn 3 = m 64 (ySh m c)) ∧ 88 < n ∧ 88 < dn ∧ 88 < sn
/-- what is known of a card's ints -/
def Ci (m : am_M) (c : Nat) : Prop := (∃ k, k < 6 ∧ m 65 c = nI k) ∧ (m 66 c = nI (yDr m c) ∧ yDr m c < 8 ∧ yDr m c < yD m) ∧ (m 67 c = nI (ySh m c) ∧ ySh m c < 6 ∧ ySh m c < yS m) ∧ (∃ p, p < 360 ∧ m 59 (yDr m c) = nI p) ∧ (∃ p, p < 360 ∧ m 62 (ySh m c) = nI p) ∧ (∃ v, v ≤ 99 ∧ m 63 (ySh m c) = nI v) ∧ (∃ v, v ≤ 9999999 ∧ m 64 (ySh m c) = nI v) ∧ (-99 ≤ m 60 (yDr m c) ∧ m 60 (yDr m c) ≤ 99) ∧ (m 72 c = 0 ∨ m 72 c = 1) ∧ (∃ v, v ≤ 9999999 ∧ m 68 c = nI v) ∧ (m 71 c = -1 ∨ ∃ v, v ≤ 9999999 ∧ m 70 c = nI v)
theorem card_int {m : am_M} (I : Inv m) {c : Nat} (hc : c < yC m) : Ci m c := by
  obtain ⟨-, ⟨D1, D2⟩, ⟨S1, S2⟩, ⟨C1, C2, -⟩, -⟩ := I
  obtain ⟨k1, ⟨k2, k3⟩, ⟨k4, k5⟩, k6, k7, k8, k9⟩ := C2 c hc
  obtain ⟨a1, a2⟩ := D2 _ k3
  obtain ⟨b1, b2, b3⟩ := S2 _ k5
  have := D1.2
  have := S1.2
  refine ⟨⟨_, by have := k1.2; omega, k1.1⟩, ⟨k2, by unfold yD at k3; omega, k3⟩, ⟨k4, by unfold yS at k5; omega, k5⟩, ⟨_, by have := a1.2; omega, a1.1⟩, ⟨_, by have := b1.2; omega, b1.1⟩, ⟨_, b2.2, b2.1⟩, ⟨_, b3.2, b3.1⟩, a2, k9, ⟨_, k6.2, k6.1⟩, ?_⟩
  rcases k8 with q | q
  · exact Or.inl q
  · exact Or.inr ⟨_, q.2.2, q.2.1⟩
theorem card_env {m : am_M} {h : am_H} (I : Inv m) (C : CR m h) {c : Nat} (hc : c < yC m) : ∃ n dn sn, Cd m h c n dn sn := by
  obtain ⟨-, ⟨k2, k3, k3'⟩, ⟨k4, k5, k5'⟩, -⟩ := card_int I hc
  obtain ⟨-, ⟨-, cd⟩, ⟨-, cs⟩, ⟨-, cc, -⟩, -⟩ := C
  obtain ⟨n, n1, n2, n3, n4, n5, n6, n7, n8, n9, n10, n11, n12⟩ := cc c hc
  obtain ⟨dn, d1, d2, d3, d4, d5, d6, d7, d8⟩ := cd _ k3'
  obtain ⟨sn, s1, s2, s3, s4, s5, s6, s7, s8⟩ := cs _ k5'
  have hC := I.2.2.2.1.1.2
  exact ⟨n, dn, sn, ⟨hc, by unfold yC at hc; omega⟩, ⟨n1, n2, by rw [n8]; exact d1, by rw [n9]; exact s1, d2, s2⟩, ⟨n5, n6, n7, n10, n11, n12⟩, ⟨by rw [d5]; exact k2.symm, d6, d7, d8⟩, ⟨by rw [s5]; exact k4.symm, s6, s7, s8⟩, n3, d3, s3⟩
theorem farN_le {m : am_M} {c : Nat} (J : Ci m c) : farN m c ≤ 180 := by
  obtain ⟨-, -, -, ⟨p, hp, ep⟩, ⟨q, hq, eq⟩, -⟩ := J
  unfold farN
  rw [ep, eq, cl, cl, nI_clamp (by omega), nI_clamp (by omega)]
  exact apN_le hp hq
section CARDS
variable {d : Nat} {h : am_H} {m : am_M} {c n dn sn : Nat}
theorem c_timeAs (E : Cd m h c n dn sn) {v : Int32} : Cl (d + 4) 74 [vr (some n), vi v] h = some (some (vi (timeF m c v)), h) := by
  obtain ⟨-, ⟨r1, r2, r3, r4, r5, r6⟩, ⟨e0, e1, e2, e5, e6, e78⟩, -⟩ := E
  unfold timeF
  by_cases a : m 71 c = -1
  · simp (decide := true) (disch := (first | assumption | omega)) only [E_74, B_74_0, B_74_7, B_74_15, B_74_22, B_74_26, e5, e1, a, bI_True, bI_False, p_max, p_min, p_abs, Option.bind_some, Option.bind_none, Option.toList_some, Option.toList_none, List.cons_append, List.nil_append, bI_eq0, bI_ne0, bI_ne1, bI_eq1, bI_01, eq_self, true_or, or_true, and_true, true_and, false_and, and_false, false_or, or_false, ite_true, ite_false, if_true, if_false, not_true, not_false_iff, Classical.not_not, nem, ite_not, ne_eq]
  · obtain ⟨e7, e8⟩ := e78 a
    simp (decide := true) (disch := (first | assumption | omega)) only [E_74, B_74_0, B_74_7, B_74_15, B_74_22, B_74_26, e5, e1, a, e7, e8, mg_i, ← nt_lt, bI_True, bI_False, p_max, p_min, p_abs, Option.bind_some, Option.bind_none, Option.toList_some, Option.toList_none, List.cons_append, List.nil_append, bI_eq0, bI_ne0, bI_ne1, bI_eq1, bI_01, eq_self, true_or, or_true, and_true, true_and, false_and, and_false, false_or, or_false, ite_true, ite_false, if_true, if_false, not_true, not_false_iff, Classical.not_not, nem, ite_not, ne_eq]
theorem c_trueTime (E : Cd m h c n dn sn) {v : Int32} : Cl (d + 5) 78 [vr (some n), vi v] h = some (some (vi (timeF m c v - m 60 (yDr m c))), h) := by
  have e := fun d => c_timeAs (d := d) E (v := v)
  obtain ⟨-, ⟨r1, r2, r3, r4, r5, r6⟩, -, ⟨d0, d1, d2, d3⟩, -⟩ := E
  simp (decide := true) (disch := (first | assumption | omega)) only [E_78, B_78_0, B_78_5, e, r3, r5, d3, bI_True, bI_False, p_max, p_min, p_abs, Option.bind_some, Option.bind_none, Option.toList_some, Option.toList_none, List.cons_append, List.nil_append, bI_eq0, bI_ne0, bI_ne1, bI_eq1, bI_01, eq_self, true_or, or_true, and_true, true_and, false_and, and_false, false_or, or_false, ite_true, ite_false, if_true, if_false, not_true, not_false_iff, Classical.not_not, nem, ite_not, ne_eq]
theorem c_far (E : Cd m h c n dn sn) (J : Ci m c) : Cl (d + 6) 76 [vr (some n)] h = some (some (vi (nI (farN m c))), h) := by
  obtain ⟨-, ⟨r1, r2, r3, r4, r5, r6⟩, -, ⟨d0, d1, d2, d3⟩, ⟨s0, s1, s2, s3⟩, -⟩ := E
  obtain ⟨-, -, -, ⟨p, hp, ep⟩, ⟨q, hq, eq⟩, -⟩ := J
  have ef : farN m c = apN p q := by unfold farN; rw [ep, eq, cl, cl, nI_clamp (by omega), nI_clamp (by omega)]
  simp (decide := true) (disch := (first | assumption | omega)) only [E_76, B_76_0, B_76_17, r3, r4, r5, r6, d1, s1, ep, eq, c_apart hp hq, ef, bI_True, bI_False, p_max, p_min, p_abs, Option.bind_some, Option.bind_none, Option.toList_some, Option.toList_none, List.cons_append, List.nil_append, bI_eq0, bI_ne0, bI_ne1, bI_eq1, bI_01, eq_self, true_or, or_true, and_true, true_and, false_and, and_false, false_or, or_false, ite_true, ite_false, if_true, if_false, not_true, not_false_iff, Classical.not_not, nem, ite_not, ne_eq]
theorem c_lateness (S : Sh h) (hb : CrB m h) (I : Inv m) (E : Cd m h c n dn sn) (J : Ci m c) {k : Nat} (hk : k < 6) {v : Int32} : Cl (d + 7) 75 [vr (some 1), vr (some n), vi (nI k), vi v] h = some (some (vi (lateF m c k v)), h) := by
  have e1 := fun d => c_far (d := d) E J
  have e2 := fun d => c_trueTime (d := d) E (v := v)
  obtain ⟨b1, b2, b3⟩ := hb
  have hn : hI h 2 2 = nI (yN m) := b2.trans I.1.2.1.1
  have h5 : yN m ≤ 5 := I.1.2.1.2
  have e3 : ∀ d, Cl (d + 6) 46 [vr (some 2), vi (nI k), vi (nI (farN m c)), vi (m 63 (ySh m c))] h = some (some (vi (dueC m c k)), h) := fun d => by
    rw [c_dueOf S hn h5 hk]
    unfold dueC
    rw [dueF_cg (fun k hk => (b3 k (by omega)).1) (fun k hk => (b3 k (by omega)).2.1) (fun k hk => (b3 k (by omega)).2.2)]
  obtain ⟨-, ⟨r1, r2, r3, r4, r5, r6⟩, -, ⟨d0, d1, d2, d3⟩, ⟨s0, s1, s2, s3⟩, -⟩ := E
  simp (decide := true) (disch := (first | assumption | omega)) only [E_75, B_75_0, B_75_9, B_75_19, B_75_27, B_75_33, B_75_38, B_75_49, r2, r4, r6, e1, e2, e3, s2, s3, S.kd (n := 2) (k := 1) rfl rfl, mg_ev, mg_i, bI_True, bI_False, p_max, p_min, p_abs, Option.bind_some, Option.bind_none, Option.toList_some, Option.toList_none, List.cons_append, List.nil_append, bI_eq0, bI_ne0, bI_ne1, bI_eq1, bI_01, eq_self, true_or, or_true, and_true, true_and, false_and, and_false, false_or, or_false, ite_true, ite_false, if_true, if_false, not_true, not_false_iff, Classical.not_not, nem, ite_not, ne_eq]
  rfl
theorem c_isHeard (E : Cd m h c n dn sn) {v : Int32} : Cl (d + 4) 95 [vr (some n), vi v] h = some (some (vi (bI (heardB m c v))), h) := by
  obtain ⟨-, ⟨r1, r2, r3, r4, r5, r6⟩, ⟨e0, e1, e2, e5, e6, e78⟩, -⟩ := E
  simp (decide := true) (disch := (first | assumption | omega)) only [E_95, B_95_0, B_95_4, B_95_11, B_95_19, B_95_23, B_95_24, r2, e6, e2, mg_i, mg_01, mg_b0, bI_True, bI_False, p_max, p_min, p_abs, Option.bind_some, Option.bind_none, Option.toList_some, Option.toList_none, List.cons_append, List.nil_append, bI_eq0, bI_ne0, bI_ne1, bI_eq1, bI_01, eq_self, true_or, or_true, and_true, true_and, false_and, and_false, false_or, or_false, ite_true, ite_false, if_true, if_false, not_true, not_false_iff, Classical.not_not, nem, ite_not, ne_eq]
  unfold heardB
  simp (decide := true) (disch := (first | assumption | omega)) only [decide_eq_true_eq, nt_lt, nt_le, reduceCtorEq, mg_b, bI_True, bI_False, p_max, p_min, p_abs, Option.bind_some, Option.bind_none, Option.toList_some, Option.toList_none, List.cons_append, List.nil_append, bI_eq0, bI_ne0, bI_ne1, bI_eq1, bI_01, eq_self, true_or, or_true, and_true, true_and, false_and, and_false, false_or, or_false, ite_true, ite_false, if_true, if_false, not_true, not_false_iff, Classical.not_not, nem, ite_not, ne_eq]
theorem m_timeOf (T : Sm h) (hc : c < 40) {v : Int32} : Cl (d + 4) 169 [vr (some 56), vi (nI c), vi v] h = some (some (vi (timeF (hI h) c v)), h) := by
  unfold timeF
  by_cases a : hI h 71 c = -1
  · simp (decide := true) (disch := (first | assumption | omega)) only [E_169, B_169_0, B_169_10, B_169_20, B_169_29, B_169_35, n_ix, n_cl, a, bI_True, bI_False, p_max, p_min, p_abs, Option.bind_some, Option.bind_none, Option.toList_some, Option.toList_none, List.cons_append, List.nil_append, bI_eq0, bI_ne0, bI_ne1, bI_eq1, bI_01, eq_self, true_or, or_true, and_true, true_and, false_and, and_false, false_or, or_false, ite_true, ite_false, if_true, if_false, not_true, not_false_iff, Classical.not_not, nem, ite_not, ne_eq]
  · simp (decide := true) (disch := (first | assumption | omega)) only [E_169, B_169_0, B_169_10, B_169_20, B_169_29, B_169_35, n_ix, n_cl, a, mg_i, ← nt_lt, bI_True, bI_False, p_max, p_min, p_abs, Option.bind_some, Option.bind_none, Option.toList_some, Option.toList_none, List.cons_append, List.nil_append, bI_eq0, bI_ne0, bI_ne1, bI_eq1, bI_01, eq_self, true_or, or_true, and_true, true_and, false_and, and_false, false_or, or_false, ite_true, ite_false, if_true, if_false, not_true, not_false_iff, Classical.not_not, nem, ite_not, ne_eq]
theorem m_farOf (T : Sm h) (hc : c < 40) (J : Ci (hI h) c) : Cl (d + 5) 172 [vr (some 56), vi (nI c)] h = some (some (vi (nI (farN (hI h) c))), h) := by
  obtain ⟨-, ⟨d1, d2, d3⟩, ⟨s1, s2, s3⟩, ⟨p, hp, ep⟩, ⟨q, hq, eq⟩, -⟩ := J
  have ef : farN (hI h) c = apN p q := by unfold farN; rw [ep, eq, cl, cl, nI_clamp (by omega), nI_clamp (by omega)]
  simp (decide := true) (disch := (first | assumption | omega)) only [E_172, B_172_0, B_172_25, n_ix, n_cl, d1, s1, ep, eq, m_apart hp hq, ef, bI_True, bI_False, p_max, p_min, p_abs, Option.bind_some, Option.bind_none, Option.toList_some, Option.toList_none, List.cons_append, List.nil_append, bI_eq0, bI_ne0, bI_ne1, bI_eq1, bI_01, eq_self, true_or, or_true, and_true, true_and, false_and, and_false, false_or, or_false, ite_true, ite_false, if_true, if_false, not_true, not_false_iff, Classical.not_not, nem, ite_not, ne_eq]
theorem m_dueOfCard (T : Sm h) (I : Inv (hI h)) (hc : c < 40) (J : Ci (hI h) c) : Cl (d + 7) 171 [vr (some 56), vi (nI c)] h = some (some (vi (dueC (hI h) c (cl (hI h 65 c)))), h) := by
  have e1 := fun d => m_farOf (d := d) T hc J
  have hf := farN_le J
  obtain ⟨⟨k, hk, ek⟩, ⟨d1, d2, d3⟩, ⟨s1, s2, s3⟩, -, -, ⟨v, hv, ev⟩, -⟩ := J
  have hn : hI h 56 1 = nI (yN (hI h)) := I.1.2.1.1
  have e3 : ∀ d, Cl (d + 6) 151 [vr (some 56), vi (nI k), vi (nI (farN (hI h) c)), vi (nI v)] h = some (some (vi (dueC (hI h) c k)), h) := fun d => by
    rw [m_dueOf T hn I.1.2.2 hf hv hk]
    unfold dueC
    rw [ev]
  simp (decide := true) (disch := (first | assumption | omega)) only [E_171, B_171_0, B_171_12, B_171_26, n_ix, n_cl, e1, s1, ek, ev, T.kd (n := 56) (k := 11) rfl rfl, e3, bI_True, bI_False, p_max, p_min, p_abs, Option.bind_some, Option.bind_none, Option.toList_some, Option.toList_none, List.cons_append, List.nil_append, bI_eq0, bI_ne0, bI_ne1, bI_eq1, bI_01, eq_self, true_or, or_true, and_true, true_and, false_and, and_false, false_or, or_false, ite_true, ite_false, if_true, if_false, not_true, not_false_iff, Classical.not_not, nem, ite_not, ne_eq]
theorem m_lateOf (T : Sm h) (I : Inv (hI h)) (hc : c < 40) (J : Ci (hI h) c) {v : Int32} : Cl (d + 8) 170 [vr (some 56), vi (nI c), vi v] h = some (some (vi (lateF (hI h) c (cl (hI h 65 c)) v)), h) := by
  have e1 := fun d => m_dueOfCard (d := d) T I hc J
  obtain ⟨⟨k, hk, ek⟩, ⟨d1, d2, d3⟩, ⟨s1, s2, s3⟩, -⟩ := J
  unfold lateF
  simp (decide := true) (disch := (first | assumption | omega)) only [E_170, B_170_0, B_170_5, B_170_11, B_170_16, B_170_22, B_170_48, n_ix, n_cl, e1, m_timeOf T hc, d1, s1, mg_ev, mg_i, bI_True, bI_False, p_max, p_min, p_abs, Option.bind_some, Option.bind_none, Option.toList_some, Option.toList_none, List.cons_append, List.nil_append, bI_eq0, bI_ne0, bI_ne1, bI_eq1, bI_01, eq_self, true_or, or_true, and_true, true_and, false_and, and_false, false_or, or_false, ite_true, ite_false, if_true, if_false, not_true, not_false_iff, Classical.not_not, nem, ite_not, ne_eq]
  done
theorem m_isHeard (T : Sm h) (hc : c < 40) {v : Int32} : Cl (d + 4) 195 [vr (some 56), vi (nI c), vi v] h = some (some (vi (bI (heardB (hI h) c v))), h) := by
  simp (decide := true) (disch := (first | assumption | omega)) only [E_195, B_195_0, B_195_10, B_195_19, B_195_23, B_195_24, n_ix, n_cl, mg_i, mg_01, mg_b0, bI_True, bI_False, p_max, p_min, p_abs, Option.bind_some, Option.bind_none, Option.toList_some, Option.toList_none, List.cons_append, List.nil_append, bI_eq0, bI_ne0, bI_ne1, bI_eq1, bI_01, eq_self, true_or, or_true, and_true, true_and, false_and, and_false, false_or, or_false, ite_true, ite_false, if_true, if_false, not_true, not_false_iff, Classical.not_not, nem, ite_not, ne_eq]
  unfold heardB
  simp (decide := true) (disch := (first | assumption | omega)) only [decide_eq_true_eq, mg_10, mg_b0, nt_lt, nt_le, bI_True, bI_False, p_max, p_min, p_abs, Option.bind_some, Option.bind_none, Option.toList_some, Option.toList_none, List.cons_append, List.nil_append, bI_eq0, bI_ne0, bI_ne1, bI_eq1, bI_01, eq_self, true_or, or_true, and_true, true_and, false_and, and_false, false_or, or_false, ite_true, ite_false, if_true, if_false, not_true, not_false_iff, Classical.not_not, nem, ite_not, ne_eq]
  rw [bI_cg and_comm]
end CARDS
