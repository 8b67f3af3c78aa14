/-! text: its two parts -/
/-- a part from its word on -/
def Pq (T V : Nat → Nat) (kw t : Nat) (a : List tOp) (q : tRs) : Prop := (T t ≠ kw ∧ q = (false, t, [])) ∨ (T t = kw ∧ ∃ f f' r, rd T V f 1 0 (t + 1) a = some r ∧ ms T V f' (t + 1) [] 2 a = some q ∧ q = if r.1 = true ∧ T r.2.1 = 59 then (true, r.2.1 + 1, r.2.2) else (false, r.2.1, []))
theorem pq_ex {T V : Nat → Nat} {N : Nat} (hN : ∀ t, N ≤ t → T t = 0) (kw t : Nat) (a : List tOp) : ∃ q, Pq T V kw t a q := by
  by_cases c : T t = kw
  · obtain ⟨f, r, e, -, m⟩ := both (V := V) hN (t + 1) a
    refine ⟨_, Or.inr ⟨c, f, 0 + (r.2.1 - (t + 1)) + 1, r, e, ?_, rfl⟩⟩
    rw [m 0]
    split <;> rfl
  · exact ⟨_, Or.inl ⟨c, rfl⟩⟩
theorem pq_fact {T V : Nat → Nat} {N kw t : Nat} {a : List tOp} {q : tRs} (hN : ∀ t, N ≤ t → T t = 0) (hV : ∀ k, T k = 1 → V k ≤ 9999) (P : Pq T V kw t a q) (ht : t ≤ N) (hk0 : kw ≠ 0) : q.2.1 ≤ N ∧ (q.1 = true → q.2.2.length + t + 2 ≤ a.length + q.2.1 ∧ ∃ s, q.2.2 = a ++ s ∧ (∀ x, x ∈ s → okOp x) ∧ depL s 0 = some 1) := by
  rcases P with ⟨c, rfl⟩ | ⟨c, f, f', r, e1, e2, rfl⟩
  · exact ⟨ht, fun w => absurd w Bool.false_ne_true⟩
  · have tN : t < N := Classical.byContradiction fun w => hk0 (by rw [← c]; exact hN t (by omega))
    obtain ⟨r1, r2, r3⟩ := rd_fact hN hV f 1 0 (t + 1) a r (Or.inl ⟨by omega, by omega⟩) e1 (by omega)
    by_cases w : r.1 = true ∧ T r.2.1 = 59
    · rw [if_pos w]
      obtain ⟨z1, s, z2, z3, z4⟩ := r3 w.1
      have lt : r.2.1 < N := Classical.byContradiction fun z => by
        have := hN r.2.1 (by omega)
        omega
      refine ⟨by show r.2.1 + 1 ≤ N; omega, fun _ => ⟨by show r.2.2.length + t + 2 ≤ a.length + (r.2.1 + 1); omega, s, z2, z3, ?_⟩⟩
      have := z4 0
      rw [if_pos (by omega)] at this
      exact this
    · rw [if_neg w]
      exact ⟨r2, fun z => absurd z Bool.false_ne_true⟩
def Mo (R : Nat) (a : List tOp) (h : am_H) : Prop := hI h 56 25 = nI R ∧ hI h 56 53 = nI a.length ∧ ∀ k o, a[k]? = some o → hI h 74 (200 * R + k) = encM o
def Fg (R i : Nat) (h h1 : am_H) : Prop := Fi (fun a => a = 56 ∨ a = 74 ∨ a = 75 ∨ a = 86) h h1 ∧ (∀ f, f < 45 → hI h1 56 f = hI h 56 f) ∧ (∀ k, k < 200 * R → hI h1 74 k = hI h 74 k) ∧ ∀ k, k < 4 * R + i → hI h1 75 k = hI h 75 k
theorem Fg.rf {R i : Nat} {h : am_H} : Fg R i h h := ⟨Fi.rf, fun _ _ => rfl, fun _ _ => rfl, fun _ _ => rfl⟩
theorem Fg.tr {R i : Nat} {h h' h'' : am_H} (F : Fg R i h h') (G : Fg R i h' h'') : Fg R i h h'' := ⟨F.1.tr G.1, fun f q => (G.2.1 f q).trans (F.2.1 f q), fun k q => (G.2.2.1 k q).trans (F.2.2.1 k q), fun k q => (G.2.2.2 k q).trans (F.2.2.2 k q)⟩
theorem Fe.fg {R i : Nat} {h h1 : am_H} (F : Fe R h h1) : Fg R i h h1 := ⟨F.1.mono (fun n q => by omega), F.2.1, F.2.2, fun k _ => by rw [F.1.2.2.2.2.2 75 (by omega)]⟩
theorem Fg.mono {R i j : Nat} {h h1 : am_H} (F : Fg R i h h1) (w : j ≤ i) : Fg R j h h1 := ⟨F.1, F.2.1, F.2.2.1, fun k q => F.2.2.2 k (by omega)⟩
theorem Fg.s5 {R i : Nat} {h h1 : am_H} (F : Fg R i h h1) {k : Nat} {v : Int32} (w : 4 * R + i ≤ k) : Fg R i h (setI h1 75 k v) := ⟨F.1.si (by omega), fun f q => by rw [hI_ne (by omega)]; exact F.2.1 f q, fun k q => by rw [hI_ne (by omega)]; exact F.2.2.1 k q, fun k q => by rw [hI_eq, if_neg (by omega)]; exact F.2.2.2 k q⟩
theorem Fg.s6 {R i : Nat} {h h1 : am_H} (F : Fg R i h h1) {k : Nat} {v : Int32} (w : 45 ≤ k) : Fg R i h (setI h1 56 k v) := ⟨F.1.si (by omega), fun f q => by rw [hI_eq, if_neg (by omega)]; exact F.2.1 f q, fun k q => by rw [hI_ne (by omega)]; exact F.2.2.1 k q, fun k q => by rw [hI_ne (by omega)]; exact F.2.2.2 k q⟩
section PARTS
variable {d : Nat} {h : am_H}
theorem c_part {T V : Nat → Nat} {N kw t : Nat} {a : List tOp} {q : tRs} (hN : N ≤ 160) (hT0 : ∀ t, N ≤ t → T t = 0) (hTb : ∀ t, T t < 200) (hV : ∀ k, T k = 1 → V k ≤ 9999) (hkw : kw ≠ 0 ∧ kw < 200) (P : Pq T V kw t a q) (ht : t ≤ N) (ha : a.length ≤ t) (S : Sh h) (K : Tk T V N h) (qa : hI h 10 1 = nI t) (C : Co a h) : Rn q h (Cl (d + 70) 20 [vr (some 10), vi (nI kw)] h) := by
  have kt := (K t ht).1
  have tb := hTb t
  rcases P with ⟨c, rfl⟩ | ⟨c, f, f', r, e1, -, rfl⟩
  · refine ⟨h, ?_, Fi.rf, qa, fun z => absurd z Bool.false_ne_true, a.length, by omega, C.1⟩
    have ac := fun d => c_accF (d := d) S qa (by omega) kt (w := nI kw) (fun z => c (by rw [n_eq (by omega) (by omega)] at z; exact z))
    simp (decide := true) (disch := (first | assumption | (simp only [Sh_setI, Sm_setI, Sh_setL, Sm_setL]; assumption) | omega)) only [E_20, B_20_0 S, ac, B_20_5, B_20_29, B_20_30, bI_True, bI_False, p_max, p_min, p_abs, Option.bind_some, Option.bind_none, Option.toList_some, Option.toList_none, List.cons_append, List.nil_append, bI_eq0, bI_ne0, bI_ne1, bI_eq1, bI_01, eq_self, true_or, or_true, and_true, true_and, false_and, and_false, false_or, or_false, ite_true, ite_false, if_true, if_false, not_true, not_false_iff, Classical.not_not, nem, ite_not, ne_eq]
  · have tN : t < N := Classical.byContradiction fun w => hkw.1 (by rw [← c]; exact hT0 t (by omega))
    have ac := fun d => c_accT (d := d) S qa (by omega) kt (w := nI kw) (by rw [c])
    have F1 : Fi (fun a => a = 10 ∨ a = 16) h (setI h 10 1 (nI (t + 1))) := Fi.rf.si (Or.inl rfl)
    have S1 : Sh (setI h 10 1 (nI (t + 1))) := S.si
    have K1 := K.fi F1
    obtain ⟨r1, r2, r3⟩ := rd_fact hT0 hV f 1 0 (t + 1) a r (Or.inl ⟨by omega, by omega⟩) e1 (by omega)
    obtain ⟨h2, e2, F2, p2, c2, n2⟩ := (c_rd hN hT0 hTb hV f 1 0 (t + 1) a r (Or.inl ⟨by omega, by omega⟩) e1 (by omega) (by omega) (by omega) (d + 69) (setI h 10 1 (nI (t + 1))) S1 K1 (by rw [hI_eq, if_pos rfl]) C.s1 (by unfold dmT; rw [if_pos (by omega)]; omega)).1 (by omega) (by omega)
    have S2 := F2.sh S1
    have K2 := K1.fi F2
    rw [show nI 0 = (0 : Int32) from rfl] at e2
    rw [show (21 + 1 : Nat) = 22 from rfl] at e2
    have head : Cl (d + 70) 20 [vr (some 10), vi (nI kw)] h = Ev (d + 70) 20 13 [vr (some 10), vi (nI kw)] [vi (bI (r.1 = true))] h2 := by
      simp (decide := true) (disch := (first | assumption | (simp only [Sh_setI, Sm_setI, Sh_setL, Sm_setL]; assumption) | omega)) only [E_20, B_20_0 S, ac, B_20_5, B_20_8 S1, e2, bI_True, bI_False, p_max, p_min, p_abs, Option.bind_some, Option.bind_none, Option.toList_some, Option.toList_none, List.cons_append, List.nil_append, bI_eq0, bI_ne0, bI_ne1, bI_eq1, bI_01, eq_self, true_or, or_true, and_true, true_and, false_and, and_false, false_or, or_false, ite_true, ite_false, if_true, if_false, not_true, not_false_iff, Classical.not_not, nem, ite_not, ne_eq]
    rw [head]
    have kt2 := (K2 r.2.1 r2).1
    have tb2 := hTb r.2.1
    by_cases w : r.1 = true ∧ T r.2.1 = 59
    · rw [if_pos w]
      have ac2 := fun d => c_accT (d := d) S2 p2 (by omega) kt2 (w := 59) (by rw [w.2]; rfl)
      obtain ⟨n, n3, n4⟩ := n2
      refine ⟨setI h2 10 1 (nI (r.2.1 + 1)), ?_, (F1.tr F2).si (Or.inl rfl), ?_, fun _ => (c2 w.1).s1, n, n3, ?_⟩
      · simp (decide := true) (disch := (first | assumption | (simp only [Sh_setI, Sm_setI, Sh_setL, Sm_setL]; assumption) | omega)) only [w.1, B_20_13, B_20_16 S2, ac2, B_20_22, B_20_25, B_20_30, bI_True, bI_False, p_max, p_min, p_abs, Option.bind_some, Option.bind_none, Option.toList_some, Option.toList_none, List.cons_append, List.nil_append, bI_eq0, bI_ne0, bI_ne1, bI_eq1, bI_01, eq_self, true_or, or_true, and_true, true_and, false_and, and_false, false_or, or_false, ite_true, ite_false, if_true, if_false, not_true, not_false_iff, Classical.not_not, nem, ite_not, ne_eq]
      · rw [hI_eq, if_pos rfl]
      · rw [hI_eq, if_neg (by omega)]; exact n4
    · rw [if_neg w]
      refine ⟨h2, ?_, F1.tr F2, p2, fun z => absurd z Bool.false_ne_true, n2⟩
      by_cases w1 : r.1 = true
      · have w2 : ¬ T r.2.1 = 59 := fun z => w ⟨w1, z⟩
        have ac2 := fun d => c_accF (d := d) S2 p2 (by omega) kt2 (w := 59) (fun z => w2 (by rw [n_eqO (by omega) (by decide)] at z; exact z))
        simp (decide := true) (disch := (first | assumption | (simp only [Sh_setI, Sm_setI, Sh_setL, Sm_setL]; assumption) | omega)) only [w1, B_20_13, B_20_16 S2, ac2, B_20_22, B_20_29, B_20_30, bI_True, bI_False, p_max, p_min, p_abs, Option.bind_some, Option.bind_none, Option.toList_some, Option.toList_none, List.cons_append, List.nil_append, bI_eq0, bI_ne0, bI_ne1, bI_eq1, bI_01, eq_self, true_or, or_true, and_true, true_and, false_and, and_false, false_or, or_false, ite_true, ite_false, if_true, if_false, not_true, not_false_iff, Classical.not_not, nem, ite_not, ne_eq]
      · simp (decide := true) (disch := (first | assumption | (simp only [Sh_setI, Sm_setI, Sh_setL, Sm_setL]; assumption) | omega)) only [w1, B_20_13, B_20_29, B_20_30, bI_True, bI_False, p_max, p_min, p_abs, Option.bind_some, Option.bind_none, Option.toList_some, Option.toList_none, List.cons_append, List.nil_append, bI_eq0, bI_ne0, bI_ne1, bI_eq1, bI_01, eq_self, true_or, or_true, and_true, true_and, false_and, and_false, false_or, or_false, ite_true, ite_false, if_true, if_false, not_true, not_false_iff, Classical.not_not, nem, ite_not, ne_eq]
theorem m_reads {T V ps St : Nat → Nat} {N sz R f t : Nat} {B : am_F} {a : List tOp} {q : tRs} (hN : N ≤ 160) (hT0 : ∀ t, N ≤ t → T t = 0) (hTb : ∀ t, tkB (T t) = true) (hV : ∀ k, T k = 1 → V k ≤ 9999) (hR6 : R < 6) (nx : NX T V ps St N sz B) (e : ms T V f t [] 2 a = some q) (ht : t ≤ N) (ha : a.length ≤ t) (S : Sm h) (L : Lt h) (eB : hI h 73 = B) (esz : hI h 56 22 = nI sz) (eps : hI h 56 45 = nI (ps t)) (M : Mo R a h) : ∃ h1, Cl (d + 16) 178 [vr (some 56)] h = some (some (vi (bI (q.1 = true))), h1) ∧ Fe R h h1 ∧ (q.1 = true → hI h1 56 45 = nI (ps q.2.1) ∧ Mst R [] q.2.2 h1 ∧ q.2.1 ≤ N) ∧ (q.1 = false → hI h1 56 46 = nI (St q.2.1) ∧ q.2.1 ≤ N) := by
  have S1 : Sm (setI (setI h 56 51 0) 56 52 0) := S.si.si
  have F1 : Fe R h (setI (setI h 56 51 0) 56 52 0) := ((Fu.rf.s5 (by omega)).s5 (by omega)).fe
  have L1 : Lt (setI (setI h 56 51 0) 56 52 0) := F1.1.lt (fun n q => by omega) L
  obtain ⟨h1, e1, F2, r⟩ := m_ms (d := d) hN hT0 hTb hV hR6 nx f t [] 2 a q e ht (by show 0 + _ ≤ _; omega) (fun s z => absurd z (by simp)) _ 1 vu (fun z => absurd z (by decide)) (fun _ => rfl) (by omega) S1 L1 (by rw [hI_ne (by omega), hI_ne (by omega)]; exact eB) (by rw [hI_eq, if_neg (by omega), hI_eq, if_neg (by omega)]; exact esz) (by rw [hI_eq, if_neg (by omega), hI_eq, if_neg (by omega)]; exact eps) ⟨by rw [hI_eq, if_neg (by omega), hI_eq, if_neg (by omega)]; exact M.1, ⟨by rw [hI_eq, if_neg (by omega), hI_eq, if_pos rfl]; rfl, fun j s z => by simp at z⟩, by rw [hI_eq, if_pos rfl]; rfl, by rw [hI_eq, if_neg (by omega), hI_eq, if_neg (by omega)]; exact M.2.1, fun k o z => by rw [hI_ne (by omega), hI_ne (by omega)]; exact M.2.2 k o z⟩
  refine ⟨h1, ?_, F1.tr F2, r⟩
  rw [show bI ((2 : Nat) ≠ 0) = 1 from bI_T (by decide)] at e1
  simp (decide := true) (disch := (first | assumption | (simp only [Sh_setI, Sm_setI, Sh_setL, Sm_setL]; assumption) | omega)) only [E_178, B_178_0 S, B_178_10, bI_True, bI_False, p_max, p_min, p_abs, Option.bind_some, Option.bind_none, Option.toList_some, Option.toList_none, List.cons_append, List.nil_append, bI_eq0, bI_ne0, bI_ne1, bI_eq1, bI_01, eq_self, true_or, or_true, and_true, true_and, false_and, and_false, false_or, or_false, ite_true, ite_false, if_true, if_false, not_true, not_false_iff, Classical.not_not, nem, ite_not, ne_eq]
  exact e1
theorem m_part {T V ps St : Nat → Nat} {N sz R t i : Nat} {B : am_F} {a : List tOp} {q : tRs} (hN : N ≤ 160) (hT0 : ∀ t, N ≤ t → T t = 0) (hTb : ∀ t, tkB (T t) = true) (hV : ∀ k, T k = 1 → V k ≤ 9999) (hR6 : R < 6) (nx : NX T V ps St N sz B) (hi : i < 2) (P : Pq T V (128 + i) t a q) (ht : t ≤ N) (ha : a.length ≤ t) (S : Sm h) (L : Lt h) (eB : hI h 73 = B) (esz : hI h 56 22 = nI sz) (eps : hI h 56 45 = nI (ps t)) (M : Mo R a h) : ∃ h1, Ev (d + 20) 175 35 [vr (some 56), vi 1, vi (nI i)] [] h = Ev (d + 20) 175 26 [vr (some 56), vi (bI (q.1 = true)), vi (nI (i + 1))] [] h1 ∧ Fg R i h h1 ∧ hI h1 75 (4 * R + i) = nI a.length ∧ (q.1 = true → hI h1 56 45 = nI (ps q.2.1) ∧ Mst R [] q.2.2 h1 ∧ q.2.1 ≤ N) ∧ (q.1 = false → hI h1 56 46 = nI (St q.2.1) ∧ q.2.1 ≤ N) := by
  obtain ⟨h1, e1, X⟩ := nx (d + 7) t h ht S L eB esz eps
  have F1 : Fe R h h1 := X.fe
  obtain ⟨G1, g2, g45, g46, g47, gv, gn, g128, g129⟩ := X
  have S1 := G1.sm S
  have L1 : Lt h1 := G1.lt (fun n q => by omega) L
  have q25 : hI h1 56 25 = nI R := (g2 25 (by omega)).trans M.1
  have q53 : hI h1 56 53 = nI a.length := (g2 53 (by omega)).trans M.2.1
  have m3 := (mtk (hTb t)).2.1.2.2.1
  have S2 : Sm (setI h1 75 (4 * R + i) (nI a.length)) := S1.si
  have F2 : Fg R i h (setI h1 75 (4 * R + i) (nI a.length)) := F1.fg.s5 (Nat.le_refl _)
  rcases P with ⟨c, rfl⟩ | ⟨c, f, f', r, -, e3, rq⟩
  · have tail : Ev (d + 20) 175 59 [vr (some 56), vi 1, vi (nI i)] [] h1 = Ev (d + 20) 175 26 [vr (some 56), vi 0, vi (nI (i + 1))] [] (setI h1 75 (4 * R + i) (nI a.length)) := by
      simp (decide := true) (disch := (first | assumption | (simp only [Sh_setI, Sm_setI, Sh_setL, Sm_setL]; assumption) | omega)) only [B_175_59, B_175_60 S1, q25, n_Omul, n_add, n_ix, n_cl, q53, B_175_93, B_175_94, n_addO, bI_True, bI_False, p_max, p_min, p_abs, Option.bind_some, Option.bind_none, Option.toList_some, Option.toList_none, List.cons_append, List.nil_append, bI_eq0, bI_ne0, bI_ne1, bI_eq1, bI_01, eq_self, true_or, or_true, and_true, true_and, false_and, and_false, false_or, or_false, ite_true, ite_false, if_true, if_false, not_true, not_false_iff, Classical.not_not, nem, ite_not, ne_eq]
    refine ⟨setI h1 75 (4 * R + i) (nI a.length), ?_, F2, by rw [hI_eq, if_pos rfl], fun z => absurd z Bool.false_ne_true, fun _ => ⟨by rw [hI_ne (by omega)]; exact g46, ht⟩⟩
    rw [show bI ((false, t, ([] : List tOp)).1 = true) = 0 from bI_F Bool.false_ne_true, ← tail]
    by_cases w : T t = 128 ∨ T t = 129
    · have w3 := m3.mpr w
      have ne : ¬ hI h1 56 48 = nI i := by
        rcases w with w | w
        · rw [g128 w, show (0 : Int32) = nI 0 from rfl, n_eq (by omega) (by omega)]; omega
        · rw [g129 w, show (1 : Int32) = nI 1 from rfl, n_eq (by omega) (by omega)]; omega
      simp (decide := true) (disch := (first | assumption | (simp only [Sh_setI, Sm_setI, Sh_setL, Sm_setL]; assumption) | omega)) only [B_175_35 S, e1, B_175_39 S1, g47, w3, B_175_47 S1, ne, bI_True, bI_False, p_max, p_min, p_abs, Option.bind_some, Option.bind_none, Option.toList_some, Option.toList_none, List.cons_append, List.nil_append, bI_eq0, bI_ne0, bI_ne1, bI_eq1, bI_01, eq_self, true_or, or_true, and_true, true_and, false_and, and_false, false_or, or_false, ite_true, ite_false, if_true, if_false, not_true, not_false_iff, Classical.not_not, nem, ite_not, ne_eq]
    · have w3 : ¬ mTk (T t) = 3 := fun z => w (m3.mp z)
      simp (decide := true) (disch := (first | assumption | (simp only [Sh_setI, Sm_setI, Sh_setL, Sm_setL]; assumption) | omega)) only [B_175_35 S, e1, B_175_39 S1, g47, w3, bI_True, bI_False, p_max, p_min, p_abs, Option.bind_some, Option.bind_none, Option.toList_some, Option.toList_none, List.cons_append, List.nil_append, bI_eq0, bI_ne0, bI_ne1, bI_eq1, bI_01, eq_self, true_or, or_true, and_true, true_and, false_and, and_false, false_or, or_false, ite_true, ite_false, if_true, if_false, not_true, not_false_iff, Classical.not_not, nem, ite_not, ne_eq]
  · have tN : t < N := Classical.byContradiction fun w => by have := hT0 t (by omega); omega
    have w3 := m3.mpr (by omega)
    have eq : hI h1 56 48 = nI i := by
      rcases (by omega : i = 0 ∨ i = 1) with rfl | rfl
      · exact g128 c
      · exact g129 c
    have L2 : Lt (setI h1 75 (4 * R + i) (nI a.length)) := F2.1.lt (fun n q => by omega) L
    have M2 : Mo R a (setI h1 75 (4 * R + i) (nI a.length)) := ⟨by rw [hI_ne (by omega)]; exact q25, by rw [hI_ne (by omega)]; exact q53, fun k o z => by rw [hI_ne (by omega), G1.2.2.2.2.2 74 (by omega)]; exact M.2.2 k o z⟩
    obtain ⟨h3, e4, F3, r3⟩ := m_reads (d := d + 3) hN hT0 hTb hV hR6 nx e3 (by omega) (by omega) S2 L2 (by rw [hI_ne (by omega), G1.2.2.2.2.2 73 (by omega)]; exact eB) (by rw [hI_ne (by omega), g2 22 (by omega)]; exact esz) (by rw [hI_ne (by omega)]; exact g45) M2
    refine ⟨h3, ?_, F2.tr F3.fg, ?_, r3⟩
    · by_cases w : q.1 = true
      · simp (decide := true) (disch := (first | assumption | (simp only [Sh_setI, Sm_setI, Sh_setL, Sm_setL]; assumption) | omega)) only [B_175_35 S, e1, B_175_39 S1, g47, w3, B_175_47 S1, eq, B_175_55, B_175_60 S1, q25, n_Omul, n_add, n_ix, n_cl, q53, B_175_82 S2, e4, w, B_175_86, B_175_89, B_175_94, n_addO, bI_True, bI_False, p_max, p_min, p_abs, Option.bind_some, Option.bind_none, Option.toList_some, Option.toList_none, List.cons_append, List.nil_append, bI_eq0, bI_ne0, bI_ne1, bI_eq1, bI_01, eq_self, true_or, or_true, and_true, true_and, false_and, and_false, false_or, or_false, ite_true, ite_false, if_true, if_false, not_true, not_false_iff, Classical.not_not, nem, ite_not, ne_eq]
      · simp (decide := true) (disch := (first | assumption | (simp only [Sh_setI, Sm_setI, Sh_setL, Sm_setL]; assumption) | omega)) only [B_175_35 S, e1, B_175_39 S1, g47, w3, B_175_47 S1, eq, B_175_55, B_175_60 S1, q25, n_Omul, n_add, n_ix, n_cl, q53, B_175_82 S2, e4, w, B_175_86, B_175_93, B_175_94, n_addO, bI_True, bI_False, p_max, p_min, p_abs, Option.bind_some, Option.bind_none, Option.toList_some, Option.toList_none, List.cons_append, List.nil_append, bI_eq0, bI_ne0, bI_ne1, bI_eq1, bI_01, eq_self, true_or, or_true, and_true, true_and, false_and, and_false, false_or, or_false, ite_true, ite_false, if_true, if_false, not_true, not_false_iff, Classical.not_not, nem, ite_not, ne_eq]
    · rw [F3.1.2.2.2.2.2 75 (by omega), hI_eq, if_pos rfl]
end PARTS
