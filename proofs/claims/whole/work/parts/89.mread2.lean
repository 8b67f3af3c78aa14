/-! text: the model's reading, the loop -/
def Fe (R : Nat) (h h1 : am_H) : Prop := Fi (fun a => a = 56 ∨ a = 74 ∨ a = 86) h h1 ∧ (∀ f, f < 45 → hI h1 56 f = hI h 56 f) ∧ ∀ k, k < 200 * R → hI h1 74 k = hI h 74 k
theorem Fe.rf {R : Nat} {h : am_H} : Fe R h h := ⟨Fi.rf, fun _ _ => rfl, fun _ _ => rfl⟩
theorem Fe.tr {R : Nat} {h h' h'' : am_H} (F : Fe R h h') (G : Fe R h' h'') : Fe R h h'' := ⟨F.1.tr G.1, fun f q => (G.2.1 f q).trans (F.2.1 f q), fun k q => (G.2.2 k q).trans (F.2.2 k q)⟩
theorem Fu.fe {R : Nat} {h h1 : am_H} (F : Fu R h h1) : Fe R h h1 := ⟨F.1, fun f q => F.2.1 f (by omega), F.2.2⟩
/-- what the next token comes to -/
def Nx (T V ps St : Nat → Nat) (t : Nat) (h h1 : am_H) : Prop := Fi (fun a => a = 56) h h1 ∧ (∀ f, f < 45 ∨ 49 ≤ f → hI h1 56 f = hI h 56 f) ∧ hI h1 56 45 = nI (ps (t + 1)) ∧ hI h1 56 46 = nI (St t) ∧ hI h1 56 47 = mTk (T t) ∧ (T t = 1 → hI h1 56 48 = nI (V t)) ∧ (133 ≤ T t ∧ T t < 139 → hI h1 56 48 = nI (T t - 133)) ∧ (T t = 128 → hI h1 56 48 = 0) ∧ (T t = 129 → hI h1 56 48 = 1)
def NX (T V ps St : Nat → Nat) (N sz : Nat) (B : am_F) : Prop := ∀ (d t : Nat) (h : am_H), t ≤ N → Sm h → Lt h → hI h 73 = B → hI h 56 22 = nI sz → hI h 56 45 = nI (ps t) → ∃ h1, Cl (d + 12) 176 [vr (some 56)] h = some (none, h1) ∧ Nx T V ps St t h h1
theorem Nx.fe {T V ps St : Nat → Nat} {t R : Nat} {h h1 : am_H} (X : Nx T V ps St t h h1) : Fe R h h1 := ⟨X.1.mono (fun n q => Or.inl q), fun f q => X.2.1 f (Or.inl q), fun k _ => by rw [X.1.2.2.2.2.2 74 (by omega)]⟩
theorem Nx.st {T V ps St : Nat → Nat} {t R : Nat} {st : List Nat} {a : List tOp} {h h1 : am_H} (X : Nx T V ps St t h h1) (M : Mst R st a h) : Mst R st a h1 := by
  obtain ⟨m1, ⟨m2, m3⟩, m4, m5, m6⟩ := M
  obtain ⟨F, e, -⟩ := X
  refine ⟨(e 25 (by omega)).trans m1, ⟨(e 51 (by omega)).trans m2, ?_⟩, (e 52 (by omega)).trans m4, (e 53 (by omega)).trans m5, ?_⟩
  · rw [F.2.2.2.2.2 86 (by omega)]; exact m3
  · rw [F.2.2.2.2.2 74 (by omega)]; exact m6
theorem Fi.lt {P : Nat → Prop} {h h1 : am_H} (F : Fi P h h1) (w : ∀ n, P n → 56 ≤ n ∧ n ≤ 88) (L : Lt h) : Lt h1 := ⟨by rw [F.2.1]; exact L.1, fun k hk => by rw [F.2.2.2.2.1]; exact L.2.1 k hk, fun i j hi hj => ⟨by rw [F.2.2.2.2.2 _ (fun z => by have := w _ z; omega)]; exact (L.2.2 i j hi hj).1, by rw [F.2.2.2.2.2 _ (fun z => by have := w _ z; omega)]; exact (L.2.2 i j hi hj).2⟩⟩
theorem unw_sub (l : Nat) : ∀ (st : List Nat) (a : List tOp), (unw l st a).1.length + (unw l st a).2.length ≤ st.length + a.length ∧ ∀ x, x ∈ (unw l st a).1 → x ∈ st := by
  intro st
  induction st with
  | nil => intro a; exact ⟨Nat.le_refl _, fun x hx => hx⟩
  | cons y st ih =>
    intro a
    rw [unw]
    split
    · obtain ⟨i2, i3⟩ := ih (a ++ [opS y])
      rw [List.length_append] at i2
      have : [opS y].length = 1 := rfl
      exact ⟨by show _ ≤ st.length + 1 + a.length; omega, fun x hx => List.mem_cons_of_mem _ (i3 x hx)⟩
    · exact ⟨Nat.le_refl _, fun x hx => hx⟩
section MREAD2
variable {d : Nat}
theorem m_ms {T V ps St : Nat → Nat} {N sz R : Nat} {B : am_F} (hN : N ≤ 160) (hT0 : ∀ t, N ≤ t → T t = 0) (hTb : ∀ t, tkB (T t) = true) (hV : ∀ k, T k = 1 → V k ≤ 9999) (hR6 : R < 6) (nx : NX T V ps St N sz B) : ∀ (f t : Nat) (st : List Nat) (w : Nat) (a : List tOp) (r : tRs), ms T V f t st w a = some r → t ≤ N → st.length + a.length ≤ t → (∀ s, s ∈ st → okS s) → ∀ (h : am_H) (a2 : Int32) (a3 : am_V), (w = 1 → a2 = 0) → (w = 2 → a2 = 1) → w ≤ 2 → Sm h → Lt h → hI h 73 = B → hI h 56 22 = nI sz → hI h 56 45 = nI (ps t) → Mst R st a h → ∃ h1, Ev (d + 16) 178 14 [vr (some 56), vi (bI (w ≠ 0)), vi a2, a3] [] h = some (some (vi (bI (r.1 = true))), h1) ∧ Fe R h h1 ∧ (r.1 = true → hI h1 56 45 = nI (ps r.2.1) ∧ Mst R [] r.2.2 h1 ∧ r.2.1 ≤ N) ∧ (r.1 = false → hI h1 56 46 = nI (St r.2.1) ∧ r.2.1 ≤ N) := by
  intro f
  induction f with
  | zero => intro t st w a r e; exact absurd e (by simp [ms])
  | succ f ih =>
    intro t st w a r e ht hln ok h a2 a3 hw1 hw2 hw S L eB esz eps M
    have lt : T t ≠ 0 → t < N := fun h => Classical.byContradiction fun w => h (hT0 t (by omega))
    obtain ⟨h1, e1, X⟩ := nx (d + 3) t h ht S L eB esz eps
    have M1 := X.st M
    have F1 : Fe R h h1 := X.fe
    obtain ⟨G1, g2, g45, g46, g47, gv, gn, -⟩ := X
    have S1 := G1.sm S
    have L1 : Lt h1 := G1.lt (fun n q => by omega) L
    have eB1 : hI h1 73 = B := by rw [G1.2.2.2.2.2 73 (by omega)]; exact eB
    have esz1 : hI h1 56 22 = nI sz := by rw [g2 22 (by omega)]; exact esz
    obtain ⟨⟨q1, q2, q3, q4, q5⟩, ⟨q6, q7, q8, q9, q10⟩, q11, q12, q13, q14, q15⟩ := mtk (hTb t)
    have k56 : hkd h1 56 = 11 := S1.kd (n := 56) (k := 11) rfl rfl
    have head : Ev (d + 16) 178 14 [vr (some 56), vi (bI (w ≠ 0)), vi a2, a3] [] h = Ev (d + 16) 178 18 [vr (some 56), vi (bI (w ≠ 0)), vi a2, a3] [] h1 := by
      rw [B_178_14 S]
      simp (decide := true) (disch := (first | assumption | (simp only [Sh_setI, Sm_setI, Sh_setL, Sm_setL]; assumption) | omega)) only [e1, bI_True, bI_False, p_max, p_min, p_abs, Option.bind_some, Option.bind_none, Option.toList_some, Option.toList_none, List.cons_append, List.nil_append, bI_eq0, bI_ne0, bI_ne1, bI_eq1, bI_01, eq_self, true_or, or_true, and_true, true_and, false_and, and_false, false_or, or_false, ite_true, ite_false, if_true, if_false, not_true, not_false_iff, Classical.not_not, nem, ite_not, ne_eq]
    have nxt : ∀ (h2 : am_H), Fu R h1 h2 → Sm h2 ∧ Lt h2 ∧ hI h2 73 = B ∧ hI h2 56 22 = nI sz ∧ hI h2 56 45 = nI (ps (t + 1)) ∧ hI h2 56 46 = nI (St t) := fun h2 F => ⟨F.1.sm S1, F.1.lt (fun n q => by omega) L1, by rw [F.1.2.2.2.2.2 73 (by omega)]; exact eB1, by rw [F.2.1 22 (by omega)]; exact esz1, by rw [F.2.1 45 (by omega)]; exact g45, by rw [F.2.1 46 (by omega)]; exact g46⟩
    rw [head]
    rw [ms] at e
    by_cases w0 : w = 0
    · rw [if_pos w0] at e
      have bw : bI (w ≠ 0) = 0 := bI_F (fun z => z w0)
      rw [bw]
      by_cases c59 : T t = 59
      · rw [if_pos c59] at e
        have tN := lt (by omega)
        obtain ⟨h2, e2, F2, M2⟩ := m_unwC (d := d + 7) hR6 (l := 1) (by omega) S1 M1 ok (by omega)
        rw [show nI 1 = (1 : Int32) from rfl] at e2
        obtain ⟨n1, n2, n3, n4, n5, n6⟩ := nxt h2 F2
        have ez : hI h2 56 51 = nI (unw 1 st a).1.length := M2.2.1.1
        obtain ⟨u1, u2⟩ := unw_sub 1 st a
        by_cases z : (unw 1 st a).1 = []
        · rw [if_pos z] at e
          cases e
          refine ⟨h2, ?_, F1.tr F2.fe, fun _ => ⟨n5, by rw [z] at M2; exact M2, by show t + 1 ≤ N; omega⟩, fun q => absurd q (by simp)⟩
          rw [z] at ez
          simp (decide := true) (disch := (first | assumption | (simp only [Sh_setI, Sm_setI, Sh_setL, Sm_setL]; assumption) | omega)) only [B_178_18, B_178_151 S1, g47, q6, c59, B_178_160 S1, e2, B_178_165 n1, ez, n_eqO, List.length_nil, B_178_172, B_178_177, bI_True, bI_False, p_max, p_min, p_abs, Option.bind_some, Option.bind_none, Option.toList_some, Option.toList_none, List.cons_append, List.nil_append, bI_eq0, bI_ne0, bI_ne1, bI_eq1, bI_01, eq_self, true_or, or_true, and_true, true_and, false_and, and_false, false_or, or_false, ite_true, ite_false, if_true, if_false, not_true, not_false_iff, Classical.not_not, nem, ite_not, ne_eq]
        · rw [if_neg z] at e
          cases e
          have z' : ¬ (unw 1 st a).1.length = 0 := fun q => z (List.eq_nil_of_length_eq_zero q)
          refine ⟨h2, ?_, F1.tr F2.fe, fun q => absurd q (by simp), fun _ => ⟨n6, ht⟩⟩
          simp (decide := true) (disch := (first | assumption | (simp only [Sh_setI, Sm_setI, Sh_setL, Sm_setL]; assumption) | omega)) only [B_178_18, B_178_151 S1, g47, q6, c59, B_178_160 S1, e2, B_178_165 n1, ez, n_eqO, z', B_178_176, B_178_177, reduceCtorEq, bI_True, bI_False, p_max, p_min, p_abs, Option.bind_some, Option.bind_none, Option.toList_some, Option.toList_none, List.cons_append, List.nil_append, bI_eq0, bI_ne0, bI_ne1, bI_eq1, bI_01, eq_self, true_or, or_true, and_true, true_and, false_and, and_false, false_or, or_false, ite_true, ite_false, if_true, if_false, not_true, not_false_iff, Classical.not_not, nem, ite_not, ne_eq]
      · rw [if_neg c59] at e
        by_cases c41 : T t = 41
        · rw [if_pos c41] at e
          have tN := lt (by omega)
          obtain ⟨h2, e2, F2, M2⟩ := m_unwC (d := d + 7) hR6 (l := 1) (by omega) S1 M1 ok (by omega)
          rw [show nI 1 = (1 : Int32) from rfl] at e2
          obtain ⟨n1, n2, n3, n4, n5, n6⟩ := nxt h2 F2
          obtain ⟨u1, u2⟩ := unw_sub 1 st a
          generalize hu1 : (unw 1 st a).1 = s1 at *
          generalize hu2 : (unw 1 st a).2 = o1 at *
          cases s1 with
          | nil =>
            cases e
            have ez : hI h2 56 51 = nI 0 := M2.2.1.1
            refine ⟨h2, ?_, F1.tr F2.fe, fun q => absurd q (by simp), fun _ => ⟨n6, ht⟩⟩
            simp (decide := true) (disch := (first | assumption | (simp only [Sh_setI, Sm_setI, Sh_setL, Sm_setL]; assumption) | omega)) only [B_178_18, B_178_151 S1, g47, q6, c59, B_178_178 S1, q7, c41, B_178_187 S1, e2, B_178_192 n1, ez, n_eqO, B_178_199, reduceCtorEq, bI_True, bI_False, p_max, p_min, p_abs, Option.bind_some, Option.bind_none, Option.toList_some, Option.toList_none, List.cons_append, List.nil_append, bI_eq0, bI_ne0, bI_ne1, bI_eq1, bI_01, eq_self, true_or, or_true, and_true, true_and, false_and, and_false, false_or, or_false, ite_true, ite_false, if_true, if_false, not_true, not_false_iff, Classical.not_not, nem, ite_not, ne_eq]
          | cons y s2 =>
            simp only at e
            obtain ⟨m1, ⟨m2, m3⟩, m4, m5, m6⟩ := id M2
            have ls : (y :: s2).length = s2.length + 1 := rfl
            rw [ls] at m2 m3 u1
            have hy : okS y := ok y (u2 y (List.mem_cons_self))
            have y0 : y = 0 := by
              have hh : ∀ (st : List Nat) (a : List tOp) y s2, (∀ s, s ∈ st → okS s) → (unw 1 st a).1 = y :: s2 → y = 0 := by
                intro st
                induction st with
                | nil => intro a y s2 _ q; exact absurd q (by simp [unw])
                | cons x st ihs =>
                  intro a y s2 okx q
                  rw [unw] at q
                  by_cases g : 1 ≤ rkS x
                  · rw [if_pos g] at q
                    exact ihs _ y s2 (fun s hs => okx s (List.mem_cons_of_mem _ hs)) q
                  · rw [if_neg g] at q
                    have : x = y := by simpa using (congrArg List.head? q)
                    rw [← this]
                    have ox := okx x (List.mem_cons_self)
                    unfold okS at ox
                    rcases ox with ox | ox
                    · exact ox
                    · exfalso
                      apply g
                      rcases (by omega : x = 11 ∨ x = 12 ∨ x = 13 ∨ x = 14 ∨ x = 15 ∨ x = 16 ∨ x = 17 ∨ x = 18 ∨ x = 19) with rfl | rfl | rfl | rfl | rfl | rfl | rfl | rfl | rfl <;> decide
              exact hh st a y s2 ok hu1
            subst y0
            have cs : cntS (0 :: s2) = cntS s2 + 1 := by rw [cntS, if_pos (by decide), Nat.add_comm]
            rw [cs] at m4
            have c2 := cnt_le s2
            have M3 : Mst R s2 o1 (setI (setI h2 56 51 (nI s2.length)) 56 52 (nI (cntS s2))) := by
              refine ⟨?_, ⟨?_, ?_⟩, ?_, ?_, ?_⟩
              · rw [hI_eq, if_neg (by omega), hI_eq, if_neg (by omega)]; exact m1
              · rw [hI_eq, if_neg (by omega), hI_eq, if_pos rfl]
              · intro j s' w
                rw [hI_ne (by omega), hI_ne (by omega)]
                have := m3 (j + 1) s' w
                rw [show s2.length + 1 - 1 - (j + 1) = s2.length - 1 - j by omega] at this
                exact this
              · rw [hI_eq, if_pos rfl]
              · rw [hI_eq, if_neg (by omega), hI_eq, if_neg (by omega)]; exact m5
              · intro k o w
                rw [hI_ne (by omega), hI_ne (by omega)]
                exact m6 k o w
            have F3 : Fu R h2 (setI (setI h2 56 51 (nI s2.length)) 56 52 (nI (cntS s2))) := (Fu.rf.s5 (by omega)).s5 (by omega)
            have T3 : Sm (setI (setI h2 56 51 (nI s2.length)) 56 52 (nI (cntS s2))) := n1.si.si
            obtain ⟨h4, e4, F4, M4⟩ := m_unwC (d := d + 7) hR6 (l := 7) (by omega) T3 M3 (fun x hx => ok x (u2 x (List.mem_cons_of_mem _ hx))) (by omega)
            rw [show nI 7 = (7 : Int32) from rfl] at e4
            have F14 := F2.tr (F3.tr F4)
            obtain ⟨n1', n2', n3', n4', n5', n6'⟩ := nxt h4 F14
            obtain ⟨v1, v2⟩ := unw_sub 7 s2 o1
            obtain ⟨h5, e5, F5, r5⟩ := ih (t + 1) _ 0 _ r e (by omega) (by omega) (fun x hx => ok x (u2 x (List.mem_cons_of_mem _ (v2 x hx)))) h4 a2 a3 (fun q => absurd q (by decide)) (fun q => absurd q (by decide)) (by omega) n1' n2' n3' n4' n5' M4
            refine ⟨h5, ?_, F1.tr (F14.fe.tr F5), r5⟩
            rw [bI_F (fun z => z rfl)] at e5
            simp (decide := true) (disch := (first | assumption | (simp only [Sh_setI, Sm_setI, Sh_setL, Sm_setL]; assumption) | omega)) only [B_178_18, B_178_151 S1, g47, q6, c59, B_178_178 S1, q7, c41, B_178_187 S1, e2, B_178_192 n1, m2, n_eqO, Nat.succ_ne_zero, B_178_201 n1, n_subO, Nat.le_add_left, Nat.add_sub_cancel, hI_eq, m4, B_178_221 T3, e4, B_178_227, bI_True, bI_False, p_max, p_min, p_abs, Option.bind_some, Option.bind_none, Option.toList_some, Option.toList_none, List.cons_append, List.nil_append, bI_eq0, bI_ne0, bI_ne1, bI_eq1, bI_01, eq_self, true_or, or_true, and_true, true_and, false_and, and_false, false_or, or_false, ite_true, ite_false, if_true, if_false, not_true, not_false_iff, Classical.not_not, nem, ite_not, ne_eq]
            exact e5
        · rw [if_neg c41] at e
          have mg := fun d => m_sign (d := d) S1 (hTb t) g47
          have pre : Ev (d + 16) 178 18 [vr (some 56), vi 0, vi a2, a3] [] h1 = Ev (d + 16) 178 234 [vr (some 56), vi 0, vi a2, a3] [vi (sgI (T t))] h1 := by
            simp (decide := true) (disch := (first | assumption | (simp only [Sh_setI, Sm_setI, Sh_setL, Sm_setL]; assumption) | omega)) only [B_178_18, B_178_151 S1, g47, q6, c59, B_178_178 S1, q7, c41, B_178_230 S1, mg, bI_True, bI_False, p_max, p_min, p_abs, Option.bind_some, Option.bind_none, Option.toList_some, Option.toList_none, List.cons_append, List.nil_append, bI_eq0, bI_ne0, bI_ne1, bI_eq1, bI_01, eq_self, true_or, or_true, and_true, true_and, false_and, and_false, false_or, or_false, ite_true, ite_false, if_true, if_false, not_true, not_false_iff, Classical.not_not, nem, ite_not, ne_eq]
          rw [pre]
          cases hs : sgT (T t) with
          | none =>
            rw [hs] at e
            rw [show sgI (T t) = -1 by unfold sgI; rw [hs]]
            cases e
            refine ⟨h1, ?_, F1, fun q => absurd q (by simp), fun _ => ⟨g46, ht⟩⟩
            simp (decide := true) (disch := (first | assumption | (simp only [Sh_setI, Sm_setI, Sh_setL, Sm_setL]; assumption) | omega)) only [B_178_234, B_178_248, reduceCtorEq, bI_True, bI_False, p_max, p_min, p_abs, Option.bind_some, Option.bind_none, Option.toList_some, Option.toList_none, List.cons_append, List.nil_append, bI_eq0, bI_ne0, bI_ne1, bI_eq1, bI_01, eq_self, true_or, or_true, and_true, true_and, false_and, and_false, false_or, or_false, ite_true, ite_false, if_true, if_false, not_true, not_false_iff, Classical.not_not, nem, ite_not, ne_eq]
          | some s =>
            rw [hs] at e
            rw [show sgI (T t) = nI s by unfold sgI; rw [hs]]
            simp only at e
            have h0 : sgT 0 = none := by decide
            have tN : t < N := lt (fun q => by rw [q, h0] at hs; exact absurd hs (by simp))
            have hs7 : s = 11 ∨ s = 12 ∨ (14 ≤ s ∧ s ≤ 18) := by
              unfold sgT at hs
              repeat' split at hs
              all_goals (first | (cases hs; omega) | exact absurd hs (by simp))
            have sm1 : ¬ nI s = -1 := nI_ne_m1 (by omega)
            obtain ⟨h2, e2, F2, M2⟩ := m_between (d := d + 3) S1 hR6 M1 ok (by omega) hs7
            obtain ⟨n1, n2, n3, n4, n5, n6⟩ := nxt h2 F2
            obtain ⟨u1, u2⟩ := unw_sub (if rkS s = 4 then 5 else rkS s) st a
            generalize (unw (if rkS s = 4 then 5 else rkS s) st a).1 = s1 at *
            generalize (unw (if rkS s = 4 then 5 else rkS s) st a).2 = o1 at *
            by_cases cc : rkS s = 4 ∧ topR s1 = 4
            · rw [if_pos cc] at e
              cases e
              rw [bI_F (fun z => z cc)] at e2
              refine ⟨h2, ?_, F1.tr F2.fe, fun q => absurd q (by simp), fun _ => ⟨n6, ht⟩⟩
              simp (decide := true) (disch := (first | assumption | (simp only [Sh_setI, Sm_setI, Sh_setL, Sm_setL]; assumption) | omega)) only [B_178_234, sm1, B_178_240 S1, e2, B_178_245, B_178_248, reduceCtorEq, bI_True, bI_False, p_max, p_min, p_abs, Option.bind_some, Option.bind_none, Option.toList_some, Option.toList_none, List.cons_append, List.nil_append, bI_eq0, bI_ne0, bI_ne1, bI_eq1, bI_01, eq_self, true_or, or_true, and_true, true_and, false_and, and_false, false_or, or_false, ite_true, ite_false, if_true, if_false, not_true, not_false_iff, Classical.not_not, nem, ite_not, ne_eq]
            · rw [if_neg cc] at e
              rw [bI_T cc] at e2
              have M3 := M2 cc
              by_cases s12 : s ≤ 12
              · rw [if_pos s12] at e
                obtain ⟨h3, e3, F3, r3⟩ := ih (t + 1) _ 2 _ r e (by omega) (by show s1.length + 1 + o1.length ≤ _; omega) (fun x hx => by
                  rcases List.mem_cons.mp hx with z | z
                  · rw [z]; unfold okS; omega
                  · exact ok x (u2 x z)) h2 1 (vi (nI s)) (fun q => absurd q (by decide)) (fun _ => rfl) (by omega) n1 n2 n3 n4 n5 M3
                refine ⟨h3, ?_, F1.tr (F2.fe.tr F3), r3⟩
                rw [bI_T (by decide)] at e3
                simp (decide := true) (disch := (first | assumption | (simp only [Sh_setI, Sm_setI, Sh_setL, Sm_setL]; assumption) | omega)) only [B_178_234, sm1, B_178_240 S1, e2, B_178_245, B_178_250, n_Olt, show ¬ 12 < s by omega, B_178_258, B_178_263, bI_True, bI_False, p_max, p_min, p_abs, Option.bind_some, Option.bind_none, Option.toList_some, Option.toList_none, List.cons_append, List.nil_append, bI_eq0, bI_ne0, bI_ne1, bI_eq1, bI_01, eq_self, true_or, or_true, and_true, true_and, false_and, and_false, false_or, or_false, ite_true, ite_false, if_true, if_false, not_true, not_false_iff, Classical.not_not, nem, ite_not, ne_eq]
                exact e3
              · rw [if_neg s12] at e
                obtain ⟨h3, e3, F3, r3⟩ := ih (t + 1) _ 1 _ r e (by omega) (by show s1.length + 1 + o1.length ≤ _; omega) (fun x hx => by
                  rcases List.mem_cons.mp hx with z | z
                  · rw [z]; unfold okS; omega
                  · exact ok x (u2 x z)) h2 0 (vi (nI s)) (fun _ => rfl) (fun q => absurd q (by decide)) (by omega) n1 n2 n3 n4 n5 M3
                refine ⟨h3, ?_, F1.tr (F2.fe.tr F3), r3⟩
                rw [bI_T (by decide)] at e3
                simp (decide := true) (disch := (first | assumption | (simp only [Sh_setI, Sm_setI, Sh_setL, Sm_setL]; assumption) | omega)) only [B_178_234, sm1, B_178_240 S1, e2, B_178_245, B_178_250, n_Olt, show 12 < s by omega, B_178_262, B_178_263, bI_True, bI_False, p_max, p_min, p_abs, Option.bind_some, Option.bind_none, Option.toList_some, Option.toList_none, List.cons_append, List.nil_append, bI_eq0, bI_ne0, bI_ne1, bI_eq1, bI_01, eq_self, true_or, or_true, and_true, true_and, false_and, and_false, false_or, or_false, ite_true, ite_false, if_true, if_false, not_true, not_false_iff, Classical.not_not, nem, ite_not, ne_eq]
                exact e3
    · rw [if_neg w0] at e
      have bw : bI (w ≠ 0) = 1 := bI_T w0
      rw [bw]
      have operand : ∀ (o : tOp) (v : Int32), v = encM o → t < N → ms T V f (t + 1) (unw 7 st (a ++ [o])).1 0 (unw 7 st (a ++ [o])).2 = some r → Ev (d + 16) 178 18 [vr (some 56), vi 1, vi a2, a3] [] h1 = Ev (d + 16) 178 62 [vr (some 56), vi 1, vi a2, a3] [vi v, vr (some 56)] h1 → ∃ h2, Ev (d + 16) 178 18 [vr (some 56), vi 1, vi a2, a3] [] h1 = some (some (vi (bI (r.1 = true))), h2) ∧ Fe R h h2 ∧ (r.1 = true → hI h2 56 45 = nI (ps r.2.1) ∧ Mst R [] r.2.2 h2 ∧ r.2.1 ≤ N) ∧ (r.1 = false → hI h2 56 46 = nI (St r.2.1) ∧ r.2.1 ≤ N) := by
        intro o v ev tN em eh
        obtain ⟨h2, e2, F2, M2⟩ := m_puts (d := d + 11) S1 hR6 M1 (by omega) ev
        have S2 := F2.1.sm S1
        obtain ⟨h3, e3, F3, M3⟩ := m_unwC (d := d + 7) hR6 (l := 7) (by omega) S2 M2 ok (by rw [List.length_append]; show st.length + (a.length + 1) ≤ 199; omega)
        rw [show nI 7 = (7 : Int32) from rfl] at e3
        have F23 := F2.tr F3
        obtain ⟨n1, n2, n3, n4, n5, n6⟩ := nxt h3 F23
        obtain ⟨u1, u2⟩ := unw_sub 7 st (a ++ [o])
        rw [List.length_append] at u1
        have l1 : [o].length = 1 := rfl
        obtain ⟨h4, e4, F4, r4⟩ := ih (t + 1) _ 0 _ r em (by omega) (by omega) (fun x hx => ok x (u2 x hx)) h3 a2 a3 (fun q => absurd q (by decide)) (fun q => absurd q (by decide)) (by omega) n1 n2 n3 n4 n5 M3
        refine ⟨h4, ?_, F1.tr (F23.fe.tr F4), r4⟩
        rw [eh]
        rw [bI_F (fun z => z rfl)] at e4
        simp (decide := true) (disch := (first | assumption | (simp only [Sh_setI, Sm_setI, Sh_setL, Sm_setL]; assumption) | omega)) only [B_178_62, k56, e2, B_178_65 S2, e3, B_178_71, bI_True, bI_False, p_max, p_min, p_abs, Option.bind_some, Option.bind_none, Option.toList_some, Option.toList_none, List.cons_append, List.nil_append, bI_eq0, bI_ne0, bI_ne1, bI_eq1, bI_01, eq_self, true_or, or_true, and_true, true_and, false_and, and_false, false_or, or_false, ite_true, ite_false, if_true, if_false, not_true, not_false_iff, Classical.not_not, nem, ite_not, ne_eq]
        exact e4
      by_cases c1 : T t = 1
      · rw [if_pos c1] at e
        have hv := hV t c1
        refine operand (.inl (V t)) (nI (100000 + V t)) rfl (lt (by omega)) e ?_
        simp (decide := true) (disch := (first | assumption | (simp only [Sh_setI, Sm_setI, Sh_setL, Sm_setL]; assumption) | omega)) only [B_178_18, B_178_22 S1, g47, q1, c1, B_178_38 S1, B_178_47 S1, gv c1, n_Oadd, bI_True, bI_False, p_max, p_min, p_abs, Option.bind_some, Option.bind_none, Option.toList_some, Option.toList_none, List.cons_append, List.nil_append, bI_eq0, bI_ne0, bI_ne1, bI_eq1, bI_01, eq_self, true_or, or_true, and_true, true_and, false_and, and_false, false_or, or_false, ite_true, ite_false, if_true, if_false, not_true, not_false_iff, Classical.not_not, nem, ite_not, ne_eq]
      · rw [if_neg c1] at e
        by_cases c2 : 133 ≤ T t ∧ T t < 139
        · rw [if_pos c2] at e
          refine operand (.inr (.inl (T t - 133))) (nI (T t - 133)) rfl (lt (by omega)) e ?_
          simp (decide := true) (disch := (first | assumption | (simp only [Sh_setI, Sm_setI, Sh_setL, Sm_setL]; assumption) | omega)) only [B_178_18, B_178_22 S1, g47, q1, c1, B_178_30 S1, q2, c2.1, B_178_38 S1, B_178_58 S1, gn c2, bI_True, bI_False, p_max, p_min, p_abs, Option.bind_some, Option.bind_none, Option.toList_some, Option.toList_none, List.cons_append, List.nil_append, bI_eq0, bI_ne0, bI_ne1, bI_eq1, bI_01, eq_self, true_or, or_true, and_true, true_and, false_and, and_false, false_or, or_false, ite_true, ite_false, if_true, if_false, not_true, not_false_iff, Classical.not_not, nem, ite_not, ne_eq]
        · rw [if_neg c2] at e
          have c2' : ¬ 133 ≤ T t := fun q => c2 ⟨q, tkB_lt (hTb t)⟩
          have pre : Ev (d + 16) 178 18 [vr (some 56), vi 1, vi a2, a3] [] h1 = Ev (d + 16) 178 76 [vr (some 56), vi 1, vi a2, a3] [] h1 := by
            simp (decide := true) (disch := (first | assumption | (simp only [Sh_setI, Sm_setI, Sh_setL, Sm_setL]; assumption) | omega)) only [B_178_18, B_178_22 S1, g47, q1, c1, B_178_30 S1, q2, c2', bI_True, bI_False, p_max, p_min, p_abs, Option.bind_some, Option.bind_none, Option.toList_some, Option.toList_none, List.cons_append, List.nil_append, bI_eq0, bI_ne0, bI_ne1, bI_eq1, bI_01, eq_self, true_or, or_true, and_true, true_and, false_and, and_false, false_or, or_false, ite_true, ite_false, if_true, if_false, not_true, not_false_iff, Classical.not_not, nem, ite_not, ne_eq]
          rw [pre]
          have opn1 : ∀ (s : Nat) (v : Int32) (w' : Nat) (b2 : Int32) (pc : Nat), v = nI s → (s = 0 ∨ s = 13 ∨ s = 19) → t < N → (if cntS st = 5 then some (false, t, []) else ms T V f (t + 1) (s :: st) w' a) = some r → (w' = 1 → b2 = 0) → (w' = 2 → b2 = 1) → (w' = 1 ∨ w' = 2) → (∀ h2, Cl (d + 15) 182 [vr (some 56), vi v] h1 = some (some (vi (bI (¬ cntS st = 5))), h2) → Ev (d + 16) 178 76 [vr (some 56), vi 1, vi a2, a3] [] h1 = if cntS st = 5 then some (some (vi 0), h2) else Ev (d + 16) 178 14 [vr (some 56), vi 1, vi b2, a3] [] h2) → ∃ h2, Ev (d + 16) 178 76 [vr (some 56), vi 1, vi a2, a3] [] h1 = some (some (vi (bI (r.1 = true))), h2) ∧ Fe R h h2 ∧ (r.1 = true → hI h2 56 45 = nI (ps r.2.1) ∧ Mst R [] r.2.2 h2 ∧ r.2.1 ≤ N) ∧ (r.1 = false → hI h2 56 46 = nI (St r.2.1) ∧ r.2.1 ≤ N) := by
            intro s v w' b2 pc ev hs tN em hb1 hb2 hw' run
            obtain ⟨h2, e2, F2, M2⟩ := m_opens (d := d + 7) S1 M1 (by omega) hs ev
            obtain ⟨n1, n2, n3, n4, n5, n6⟩ := nxt h2 F2
            have rn := run h2 e2
            by_cases c5 : cntS st = 5
            · rw [if_pos c5] at em rn
              cases em
              exact ⟨h2, rn, F1.tr F2.fe, fun q => absurd q (by simp), fun _ => ⟨n6, ht⟩⟩
            · rw [if_neg c5] at em rn
              obtain ⟨h3, e3, F3, r3⟩ := ih (t + 1) (s :: st) w' a r em (by omega) (by show st.length + 1 + a.length ≤ _; omega) (fun x hx => by
                rcases List.mem_cons.mp hx with z | z
                · rw [z]; unfold okS; omega
                · exact ok x z) h2 b2 a3 hb1 hb2 (by omega) n1 n2 n3 n4 n5 (M2 c5)
              rw [bI_T (by omega)] at e3
              exact ⟨h3, rn.trans e3, F1.tr (F2.fe.tr F3), r3⟩
          by_cases c3 : T t = 132 ∧ w = 2
          · rw [if_pos c3] at e
            have ea2 := hw2 c3.2
            refine opn1 13 13 w 1 0 rfl (by omega) (lt (by omega)) e (fun q => by omega) (fun _ => rfl) (by omega) (fun h2 e2 => ?_)
            by_cases c5 : cntS st = 5
            · rw [if_pos c5]
              rw [bI_F (fun z => z c5)] at e2
              simp (decide := true) (disch := (first | assumption | (simp only [Sh_setI, Sm_setI, Sh_setL, Sm_setL]; assumption) | omega)) only [B_178_76 S1, g47, q3, c3.1, B_178_85, ea2, B_178_89 S1, e2, B_178_95, B_178_98, bI_True, bI_False, p_max, p_min, p_abs, Option.bind_some, Option.bind_none, Option.toList_some, Option.toList_none, List.cons_append, List.nil_append, bI_eq0, bI_ne0, bI_ne1, bI_eq1, bI_01, eq_self, true_or, or_true, and_true, true_and, false_and, and_false, false_or, or_false, ite_true, ite_false, if_true, if_false, not_true, not_false_iff, Classical.not_not, nem, ite_not, ne_eq]
            · rw [if_neg c5]
              rw [bI_T c5] at e2
              simp (decide := true) (disch := (first | assumption | (simp only [Sh_setI, Sm_setI, Sh_setL, Sm_setL]; assumption) | omega)) only [B_178_76 S1, g47, q3, c3.1, B_178_85, ea2, B_178_89 S1, e2, B_178_95, bI_True, bI_False, p_max, p_min, p_abs, Option.bind_some, Option.bind_none, Option.toList_some, Option.toList_none, List.cons_append, List.nil_append, bI_eq0, bI_ne0, bI_ne1, bI_eq1, bI_01, eq_self, true_or, or_true, and_true, true_and, false_and, and_false, false_or, or_false, ite_true, ite_false, if_true, if_false, not_true, not_false_iff, Classical.not_not, nem, ite_not, ne_eq]
          · rw [if_neg c3] at e
            have pre2 : Ev (d + 16) 178 76 [vr (some 56), vi 1, vi a2, a3] [] h1 = Ev (d + 16) 178 100 [vr (some 56), vi 1, vi a2, a3] [] h1 := by
              by_cases c4 : T t = 132
              · have : w = 1 := by omega
                have ea2 := hw1 this
                simp (decide := true) (disch := (first | assumption | (simp only [Sh_setI, Sm_setI, Sh_setL, Sm_setL]; assumption) | omega)) only [B_178_76 S1, g47, q3, c4, B_178_85, ea2, bI_True, bI_False, p_max, p_min, p_abs, Option.bind_some, Option.bind_none, Option.toList_some, Option.toList_none, List.cons_append, List.nil_append, bI_eq0, bI_ne0, bI_ne1, bI_eq1, bI_01, eq_self, true_or, or_true, and_true, true_and, false_and, and_false, false_or, or_false, ite_true, ite_false, if_true, if_false, not_true, not_false_iff, Classical.not_not, nem, ite_not, ne_eq]
              · simp (decide := true) (disch := (first | assumption | (simp only [Sh_setI, Sm_setI, Sh_setL, Sm_setL]; assumption) | omega)) only [B_178_76 S1, g47, q3, c4, bI_True, bI_False, p_max, p_min, p_abs, Option.bind_some, Option.bind_none, Option.toList_some, Option.toList_none, List.cons_append, List.nil_append, bI_eq0, bI_ne0, bI_ne1, bI_eq1, bI_01, eq_self, true_or, or_true, and_true, true_and, false_and, and_false, false_or, or_false, ite_true, ite_false, if_true, if_false, not_true, not_false_iff, Classical.not_not, nem, ite_not, ne_eq]
            by_cases c4 : T t = 45
            · rw [if_pos c4] at e
              refine opn1 19 19 1 0 0 rfl (by omega) (lt (by omega)) e (fun _ => rfl) (fun q => by omega) (by omega) (fun h2 e2 => ?_)
              rw [pre2]
              by_cases c5 : cntS st = 5
              · rw [if_pos c5]
                rw [bI_F (fun z => z c5)] at e2
                simp (decide := true) (disch := (first | assumption | (simp only [Sh_setI, Sm_setI, Sh_setL, Sm_setL]; assumption) | omega)) only [B_178_100 S1, g47, q4, c4, B_178_109 S1, e2, B_178_115, B_178_118, bI_True, bI_False, p_max, p_min, p_abs, Option.bind_some, Option.bind_none, Option.toList_some, Option.toList_none, List.cons_append, List.nil_append, bI_eq0, bI_ne0, bI_ne1, bI_eq1, bI_01, eq_self, true_or, or_true, and_true, true_and, false_and, and_false, false_or, or_false, ite_true, ite_false, if_true, if_false, not_true, not_false_iff, Classical.not_not, nem, ite_not, ne_eq]
              · rw [if_neg c5]
                rw [bI_T c5] at e2
                simp (decide := true) (disch := (first | assumption | (simp only [Sh_setI, Sm_setI, Sh_setL, Sm_setL]; assumption) | omega)) only [B_178_100 S1, g47, q4, c4, B_178_109 S1, e2, B_178_115, B_178_120, bI_True, bI_False, p_max, p_min, p_abs, Option.bind_some, Option.bind_none, Option.toList_some, Option.toList_none, List.cons_append, List.nil_append, bI_eq0, bI_ne0, bI_ne1, bI_eq1, bI_01, eq_self, true_or, or_true, and_true, true_and, false_and, and_false, false_or, or_false, ite_true, ite_false, if_true, if_false, not_true, not_false_iff, Classical.not_not, nem, ite_not, ne_eq]
            · rw [if_neg c4] at e
              by_cases c6 : T t = 40
              · rw [if_pos c6] at e
                refine opn1 0 0 2 1 0 rfl (by omega) (lt (by omega)) e (fun q => by omega) (fun _ => rfl) (by omega) (fun h2 e2 => ?_)
                rw [pre2]
                by_cases c5 : cntS st = 5
                · rw [if_pos c5]
                  rw [bI_F (fun z => z c5)] at e2
                  simp (decide := true) (disch := (first | assumption | (simp only [Sh_setI, Sm_setI, Sh_setL, Sm_setL]; assumption) | omega)) only [B_178_100 S1, g47, q4, c4, B_178_125 S1, q5, c6, B_178_134 S1, e2, B_178_139, B_178_142, bI_True, bI_False, p_max, p_min, p_abs, Option.bind_some, Option.bind_none, Option.toList_some, Option.toList_none, List.cons_append, List.nil_append, bI_eq0, bI_ne0, bI_ne1, bI_eq1, bI_01, eq_self, true_or, or_true, and_true, true_and, false_and, and_false, false_or, or_false, ite_true, ite_false, if_true, if_false, not_true, not_false_iff, Classical.not_not, nem, ite_not, ne_eq]
                · rw [if_neg c5]
                  rw [bI_T c5] at e2
                  simp (decide := true) (disch := (first | assumption | (simp only [Sh_setI, Sm_setI, Sh_setL, Sm_setL]; assumption) | omega)) only [B_178_100 S1, g47, q4, c4, B_178_125 S1, q5, c6, B_178_134 S1, e2, B_178_139, B_178_144, bI_True, bI_False, p_max, p_min, p_abs, Option.bind_some, Option.bind_none, Option.toList_some, Option.toList_none, List.cons_append, List.nil_append, bI_eq0, bI_ne0, bI_ne1, bI_eq1, bI_01, eq_self, true_or, or_true, and_true, true_and, false_and, and_false, false_or, or_false, ite_true, ite_false, if_true, if_false, not_true, not_false_iff, Classical.not_not, nem, ite_not, ne_eq]
              · rw [if_neg c6] at e
                cases e
                refine ⟨h1, ?_, F1, fun q => absurd q (by simp), fun _ => ⟨g46, ht⟩⟩
                rw [pre2]
                simp (decide := true) (disch := (first | assumption | (simp only [Sh_setI, Sm_setI, Sh_setL, Sm_setL]; assumption) | omega)) only [B_178_100 S1, g47, q4, c4, B_178_125 S1, q5, c6, B_178_149, reduceCtorEq, bI_True, bI_False, p_max, p_min, p_abs, Option.bind_some, Option.bind_none, Option.toList_some, Option.toList_none, List.cons_append, List.nil_append, bI_eq0, bI_ne0, bI_ne1, bI_eq1, bI_01, eq_self, true_or, or_true, and_true, true_and, false_and, and_false, false_or, or_false, ite_true, ite_false, if_true, if_false, not_true, not_false_iff, Classical.not_not, nem, ite_not, ne_eq]
end MREAD2
