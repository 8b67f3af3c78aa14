/-! refit: all that is off, tried -/
def allF (m : am_M) (kn cap : Int32) : Nat → Nat → Int64 → Int64
  | 0, _, s => s
  | j + 1, c, s => allF m kn cap j (c + 1) (if heardB m c kn = true then s + (szF (lateF m c (cl (m 65 c)) kn) cap).toInt64 else s)
theorem allF_cg {m m' : am_M} {kn cap : Int32} (e : ∀ n, 57 ≤ n → n ≤ 84 → m' n = m n) (e2 : m' 56 1 = m 56 1) : ∀ (j c : Nat) (s : Int64), allF m' kn cap j c s = allF m kn cap j c s := by
  intro j
  induction j with
  | zero => intro c s; rfl
  | succ j ih =>
    intro c s
    have eh : heardB m' c kn = heardB m c kn := by unfold heardB; rw [e 72 (by omega) (by omega), e 69 (by omega) (by omega)]
    rw [allF, allF, ih, eh, e 65 (by omega) (by omega), (lateF_cg e e2).2.2]
abbrev am_Tr : Type := Int32 × Int32 × Int32
def tryG (m : am_M) (kn cap : Int32) (k so : Nat) : Nat → Nat → Int64 → am_Tr → Int64 × am_Tr
  | 0, _, l, f => (l, f)
  | j + 1, v, l, f => if 99 < v then (l, f) else if allF (upm m 58 (5 * so + k) (nI v)) kn cap (yC m) 0 0 < l then tryG m kn cap k so j (v + 7) (allF (upm m 58 (5 * so + k) (nI v)) kn cap (yC m) 0 0) (nI k, nI so, nI v) else tryG m kn cap k so j (v + 7) l f
def refG (m : am_M) (kn cap : Int32) : Nat → Nat → Int64 → am_Tr → Int64 × am_Tr
  | 0, _, l, f => (l, f)
  | j + 1, k, l, f => refG m kn cap j (k + 1) (tryG m kn cap k 1 16 0 (tryG m kn cap k 0 16 1 l f).1 (tryG m kn cap k 0 16 1 l f).2).1 (tryG m kn cap k 1 16 0 (tryG m kn cap k 0 16 1 l f).1 (tryG m kn cap k 0 16 1 l f).2).2
theorem Inv_cg2 {m m' : am_M} (e : ∀ n, 57 ≤ n → n ≤ 84 → m' n = m n) (e2 : ∀ f, f < 27 ∨ (30 ≤ f ∧ f < 44) → m' 56 f = m 56 f) (I : Inv m) : Inv m' := by
  simp (disch := omega) only [Inv, InvB, InvD, InvS, InvC, InvT, InvI, InvH, yY, yN, yD, yS, yC, yB, yT, yDr, ySh, e, e2]
  exact I
/-- a slow that may be -/
def okSl (so v : Nat) : Prop := v ≤ 99 ∧ (so = 0 → 1 ≤ v)
theorem inv_slow {m : am_M} (I : Inv m) {so k v : Nat} (hk : k < 5) (hs : so < 2) (ok : okSl so v) : Inv (upm m 58 (5 * so + k) (nI v)) := by
  have e58 : ∀ n, n ≠ 58 → upm m 58 (5 * so + k) (nI v) n = m n := fun n q => upm_ne q
  obtain ⟨IB, IR⟩ := I
  refine ⟨?_, ?_⟩
  · simp (disch := omega) only [InvB, yN, e58] at IB ⊢
    refine ⟨IB.1, IB.2.1, IB.2.2.1, IB.2.2.2.1, fun j hj => ?_⟩
    obtain ⟨a1, a2, a3⟩ := IB.2.2.2.2 j hj
    refine ⟨a1, ?_, ?_⟩
    · rw [upm_eq]
      split
      · rename_i w
        exact ⟨v, rfl, ok.2 (by have := IB.2.2.1; omega), ok.1⟩
      · exact a2
    · show ∃ c, upm m 58 (5 * so + k) (nI v) 58 (5 + j) = nI c ∧ c ≤ 99
      rw [upm_eq]
      split
      · exact ⟨v, rfl, ok.1⟩
      · exact a3
  · simp (disch := omega) only [InvD, InvS, InvC, InvT, InvI, InvH, yN, yY, yD, yS, yC, yB, yT, yDr, ySh, e58] at IR ⊢
    exact IR
/-- what it takes to tell how late all cards are -/
def Ao (m : am_M) (h : am_H) : Prop := Sh h ∧ Inv m ∧ CrB m h ∧ hI h 1 6 = m 56 12 ∧ ∀ c, c < yC m → ∃ n dn sn, Cd m h c n dn sn
theorem Ao.of {m M : am_M} {h h' : am_H} (S : Sh h) (I : Inv m) (C : CR m h) (IM : Inv M) (e : ∀ n, n ≠ 58 → M n = m n) (F : Fi (fun a => a = 5 ∨ a = 6 ∨ a = 33) h h') (B : CrB M h') : Ao M h' := by
  have st := F.2.2.2.2.2
  refine ⟨F.sh S, IM, B, ?_, fun c hc => ?_⟩
  · rw [st 1 (by omega), e 56 (by omega)]; exact C.2.2.2.1.1
  · unfold yC at hc
    rw [e 56 (by omega)] at hc
    obtain ⟨n, dn, sn, E⟩ := card_env I C hc
    refine ⟨n, dn, sn, ?_⟩
    have n1 := E.2.2.2.2.2.1
    have n2 := E.2.2.2.2.2.2.1
    have n3 := E.2.2.2.2.2.2.2
    unfold Cd yC yDr ySh at E ⊢
    rw [F.2.1, F.2.2.2.1, st n (by omega), st dn (by omega), st sn (by omega), e 56 (by omega), e 65 (by omega), e 66 (by omega), e 67 (by omega), e 68 (by omega), e 69 (by omega), e 70 (by omega), e 71 (by omega), e 72 (by omega), e 59 (by omega), e 60 (by omega), e 61 (by omega), e 62 (by omega), e 63 (by omega), e 64 (by omega)]
    exact E
section REFIT
variable {d : Nat} {h : am_H} {m : am_M}
theorem c_allOff (A : Ao m h) {kn cap : Int32} : Cl (d + 12) 107 [vr (some 1), vi kn, vi cap] h = some (some (vl (allF m kn cap (yC m) 0 0)), h) := by
  obtain ⟨S, I, B, q1, env⟩ := A
  have q2 : m 56 12 = nI (yC m) := I.2.2.2.1.1.1
  have q3 : yC m ≤ 40 := I.2.2.2.1.1.2
  have go : ∀ (j c : Nat) (s : Int64) (a6 : am_V), c + j = yC m → Ev (d + 12) 107 5 [vr (some 1), vi kn, vi cap, vl s, vu, vi (nI c), a6] [] h = some (some (vl (allF m kn cap j c s)), h) := by
    intro j
    induction j with
    | zero =>
      intro c s a6 e
      rw [B_107_5 S, q1, q2]
      simp (decide := true) (disch := (first | assumption | (simp only [Sh_setI, Sm_setI, Sh_setL, Sm_setL]; assumption) | omega)) only [n_le, show yC m ≤ c by omega, B_107_60, allF, bI_True, bI_False, p_max, p_min, p_abs, Option.bind_some, Option.bind_none, Option.toList_some, Option.toList_none, List.cons_append, List.nil_append, bI_eq0, bI_ne0, bI_ne1, bI_eq1, bI_01, eq_self, true_or, or_true, and_true, true_and, false_and, and_false, false_or, or_false, ite_true, ite_false, if_true, if_false, not_true, not_false_iff, Classical.not_not, nem, ite_not, ne_eq]
    | succ j ih =>
      intro c s a6 e
      have hc : c < yC m := by omega
      obtain ⟨n, dn, sn, E⟩ := env c hc
      have J := card_int I hc
      obtain ⟨kd, hkd', ekd⟩ := J.1
      have ec := fun d => c_cardAt (d := d) S (q1.trans q2) q3 hc
      have el := fun d => c_lateness (d := d) S B I E J hkd' (v := kn)
      have eh := fun d => c_isHeard (d := d) E (v := kn)
      have r1 := E.2.1.1
      have r2 := E.2.1.2.1
      have e0k : hI h n 0 = nI kd := E.2.2.1.1.trans ekd
      have ekd2 : cl (m 65 c) = kd := by rw [ekd, cl, n_cl (by omega)]
      rw [B_107_5 S, q1, q2, allF, ekd2]
      by_cases a : heardB m c kn = true
      · rw [if_pos a]
        simp (decide := true) (disch := (first | assumption | (simp only [Sh_setI, Sm_setI, Sh_setL, Sm_setL]; assumption) | omega)) only [n_le, show ¬ yC m ≤ c by omega, B_107_14 S, ec, r1, B_107_20, eh, B_107_28, a, B_107_31 S, r2, e0k, el, B_107_45, B_107_48, sz_min, B_107_51, B_107_54, n_addO, bI_True, bI_False, p_max, p_min, p_abs, Option.bind_some, Option.bind_none, Option.toList_some, Option.toList_none, List.cons_append, List.nil_append, bI_eq0, bI_ne0, bI_ne1, bI_eq1, bI_01, eq_self, true_or, or_true, and_true, true_and, false_and, and_false, false_or, or_false, ite_true, ite_false, if_true, if_false, not_true, not_false_iff, Classical.not_not, nem, ite_not, ne_eq]
        exact ih _ _ _ (by omega)
      · rw [if_neg a]
        simp (decide := true) (disch := (first | assumption | (simp only [Sh_setI, Sm_setI, Sh_setL, Sm_setL]; assumption) | omega)) only [n_le, show ¬ yC m ≤ c by omega, B_107_14 S, ec, r1, B_107_20, eh, B_107_28, a, B_107_54, n_addO, bI_True, bI_False, p_max, p_min, p_abs, Option.bind_some, Option.bind_none, Option.toList_some, Option.toList_none, List.cons_append, List.nil_append, bI_eq0, bI_ne0, bI_ne1, bI_eq1, bI_01, eq_self, true_or, or_true, and_true, true_and, false_and, and_false, false_or, or_false, ite_true, ite_false, if_true, if_false, not_true, not_false_iff, Classical.not_not, nem, ite_not, ne_eq]
        exact ih _ _ _ (by omega)
  rw [E_107, B_107_0]
  exact go (yC m) 0 0 vu (by omega)
theorem m_allOff (T : Sm h) (I : Inv (hI h)) {kn cap : Int32} : Cl (d + 12) 201 [vr (some 56), vi kn, vi cap] h = some (some (vl (allF (hI h) kn cap (yC (hI h)) 0 0)), h) := by
  have q2 : hI h 56 12 = nI (yC (hI h)) := I.2.2.2.1.1.1
  have q3 : yC (hI h) ≤ 40 := I.2.2.2.1.1.2
  have go : ∀ (j c : Nat) (s : Int64), c + j = yC (hI h) → Ev (d + 12) 201 5 [vr (some 56), vi kn, vi cap, vl s, vu, vi (nI c)] [] h = some (some (vl (allF (hI h) kn cap j c s)), h) := by
    intro j
    induction j with
    | zero =>
      intro c s e
      rw [B_201_5 T, q2]
      simp (decide := true) (disch := (first | assumption | (simp only [Sh_setI, Sm_setI, Sh_setL, Sm_setL]; assumption) | omega)) only [n_le, show yC (hI h) ≤ c by omega, B_201_49, allF, bI_True, bI_False, p_max, p_min, p_abs, Option.bind_some, Option.bind_none, Option.toList_some, Option.toList_none, List.cons_append, List.nil_append, bI_eq0, bI_ne0, bI_ne1, bI_eq1, bI_01, eq_self, true_or, or_true, and_true, true_and, false_and, and_false, false_or, or_false, ite_true, ite_false, if_true, if_false, not_true, not_false_iff, Classical.not_not, nem, ite_not, ne_eq]
    | succ j ih =>
      intro c s e
      have hc : c < yC (hI h) := by omega
      have J := card_int I hc
      have ml := fun d => m_lateOf (d := d) T I (show c < 40 by omega) J (v := kn)
      have mh := fun d => m_isHeard (d := d) T (show c < 40 by omega) (v := kn)
      rw [B_201_5 T, q2, allF]
      by_cases a : heardB (hI h) c kn = true
      · rw [if_pos a]
        simp (decide := true) (disch := (first | assumption | (simp only [Sh_setI, Sm_setI, Sh_setL, Sm_setL]; assumption) | omega)) only [n_le, show ¬ yC (hI h) ≤ c by omega, B_201_14 T, mh, a, B_201_22, B_201_25 T, ml, B_201_32, m_szF, B_201_36, B_201_41, n_addO, bI_True, bI_False, p_max, p_min, p_abs, Option.bind_some, Option.bind_none, Option.toList_some, Option.toList_none, List.cons_append, List.nil_append, bI_eq0, bI_ne0, bI_ne1, bI_eq1, bI_01, eq_self, true_or, or_true, and_true, true_and, false_and, and_false, false_or, or_false, ite_true, ite_false, if_true, if_false, not_true, not_false_iff, Classical.not_not, nem, ite_not, ne_eq]
        exact ih _ _ (by omega)
      · rw [if_neg a]
        simp (decide := true) (disch := (first | assumption | (simp only [Sh_setI, Sm_setI, Sh_setL, Sm_setL]; assumption) | omega)) only [n_le, show ¬ yC (hI h) ≤ c by omega, B_201_14 T, mh, a, B_201_22, B_201_40, B_201_41, n_addO, Int64.add_zero, bI_True, bI_False, p_max, p_min, p_abs, Option.bind_some, Option.bind_none, Option.toList_some, Option.toList_none, List.cons_append, List.nil_append, bI_eq0, bI_ne0, bI_ne1, bI_eq1, bI_01, eq_self, true_or, or_true, and_true, true_and, false_and, and_false, false_or, or_false, ite_true, ite_false, if_true, if_false, not_true, not_false_iff, Classical.not_not, nem, ite_not, ne_eq]
        exact ih _ _ (by omega)
  rw [E_201, B_201_0]
  exact go (yC (hI h)) 0 0 (by omega)
theorem c_keep (S : Sh h) {a b c : Int32} : Cl (d + 4) 108 [vr (some 1), vi a, vi b, vi c] h = some (none, setI (setI (setI h 33 0 a) 33 1 b) 33 2 c) := by
  simp (decide := true) (disch := (first | assumption | (simp only [Sh_setI, Sm_setI, Sh_setL, Sm_setL]; assumption) | omega)) only [E_108, B_108_0, B_108_14, n_ixO, n_clO, bI_True, bI_False, p_max, p_min, p_abs, Option.bind_some, Option.bind_none, Option.toList_some, Option.toList_none, List.cons_append, List.nil_append, bI_eq0, bI_ne0, bI_ne1, bI_eq1, bI_01, eq_self, true_or, or_true, and_true, true_and, false_and, and_false, false_or, or_false, ite_true, ite_false, if_true, if_false, not_true, not_false_iff, Classical.not_not, nem, ite_not, ne_eq]
theorem put_crB {M : am_M} {h' : am_H} {so k : Nat} {v : Int32} (hk : k < 5) (hs : so < 2) (B : CrB M h') : CrB (upm M 58 (5 * so + k) v) (setI h' (5 + so) k v) := by
  refine ⟨?_, ?_, fun j hj => ?_⟩
  · rw [hI_ne (by omega), upm_ne (by omega)]; exact B.1
  · rw [hI_ne (by omega), upm_ne (by omega)]; exact B.2.1
  · obtain ⟨a1, a2, a3⟩ := B.2.2 j hj
    match so, hs with
    | 0, _ =>
      refine ⟨by rw [hI_ne (by omega), upm_ne (by omega)]; exact a1, ?_, ?_⟩
      · show hI (setI h' 5 k v) 5 j = _
        rw [hI_eq, upm_eq]
        by_cases w : j = k
        · rw [if_pos w, if_pos (by omega)]
        · rw [if_neg w, if_neg (by omega)]; exact a2
      · rw [hI_ne (by omega), upm_eq, if_neg (by omega)]; exact a3
    | 1, _ =>
      refine ⟨by rw [hI_ne (by omega), upm_ne (by omega)]; exact a1, ?_, ?_⟩
      · rw [hI_ne (by omega), upm_eq, if_neg (by omega)]; exact a2
      · show hI (setI h' 6 k v) 6 j = _
        rw [hI_eq, upm_eq]
        by_cases w : j = k
        · rw [if_pos w, if_pos (by omega)]
        · rw [if_neg w, if_neg (by omega)]; exact a3
theorem upm_upm {M : am_M} {n i : Nat} {x y : Int32} : upm (upm M n i x) n i y = upm M n i y := by
  funext a j
  unfold upm
  split <;> rfl
theorem upm_id {M : am_M} {n i : Nat} : upm M n i (M n i) = M := by
  funext a j
  unfold upm
  split
  · rename_i q; rw [q.1, q.2]
  · rfl
end REFIT
