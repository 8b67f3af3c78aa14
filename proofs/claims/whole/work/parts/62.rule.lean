/-! what the rule says: the class -/
def szF (v most : Int32) : Int32 := if (if 0 ≤ v then v else 0 - v) ≤ most then (if 0 ≤ v then v else 0 - v) else most
theorem sz_min {v most : Int32} : (if (if 0 ≤ v then v else 0 - v) < most then (if 0 ≤ v then v else 0 - v) else most) = szF v most := by
  unfold szF
  generalize (if 0 ≤ v then v else 0 - v) = n
  by_cases a : n < most
  · rw [if_pos a, if_pos (Int32.le_of_lt a)]
  · rw [if_neg a]
    by_cases b : n ≤ most
    · rw [if_pos b]
      rw [nt_le] at a
      exact Int32.le_antisymm a b
    · rw [if_neg b]
def factF (m : am_M) (c : Nat) (late : Int32) : am_F := fun x => match x with
  | 0 => szF late 9999
  | 1 => nI (farN m c)
  | 2 => m 65 c
  | 3 => m 61 (yDr m c)
  | 4 => m 60 (yDr m c)
  | _ => m 63 (ySh m c)
theorem evL_F {F G : am_F} : ∀ (os : List tOp) (n : Nat) (f : am_F), (∀ o, o ∈ os → okOp o) → (∀ x, x < 6 → F x = G x) → evL F os n f = evL G os n f := by
  intro os
  induction os with
  | nil => intro n f _ _; rfl
  | cons o os ih =>
    intro n f ok e
    simp only [evL]
    have ho := ok o (List.mem_cons_self)
    have : evO F o n f = evO G o n f := by
      match o, ho with
      | .inl v, _ => rfl
      | .inr (.inl x), ho => simp only [evO]; rw [e x ho]
      | .inr (.inr (.inl true)), _ => rfl
      | .inr (.inr (.inl false)), _ => rfl
      | .inr (.inr (.inr b)), _ => rfl
    rw [this]
    exact ih _ _ (fun o ho => ok o (List.mem_cons_of_mem _ ho)) e
/-- what a text's part comes to -/
def saysF (m : am_M) (c : Nat) (late : Int32) (os : List tOp) : Int32 := evL (factF m c late) os 0 (fun _ => 0) 0
theorem says_eq {m : am_M} {c : Nat} {late : Int32} {os : List tOp} {f : am_F} (e : depL os 0 = some 1) : evL (factF m c late) os 0 f 0 = saysF m c late os := evL_cg os 0 1 f _ e (fun j hj => absurd hj (by omega)) 0 (by omega)
section RULE
variable {d : Nat} {h : am_H} {m : am_M}
theorem Cd.ft {n0 c n dn sn : Nat} {h' : am_H} (E : Cd m h c n dn sn) (F : Ft n0 h h') (k0 : hkd h n0 = 7) (k2 : hkd h (n0 + 2) = 100) : Cd m h' c n dn sn := by
  obtain ⟨e1, ⟨r1, r2, r3, r4, r5, r6⟩, e3, e4, e5, n1, n2, n3⟩ := E
  have o : ∀ a, 88 < a → hkd h a ≠ 7 → hkd h a ≠ 100 → hI h' a = hI h a := fun a q1 q2 q3 => funext fun j => F.2.2.2.2.2 a j (by omega) (fun e => by rw [e] at q3; exact q3 k2) (fun e => by rw [e] at q2; exact absurd k0 q2)
  unfold Cd
  rw [F.2.1, F.2.2.2.1, o n n1 (by omega) (by omega), o dn n2 (by omega) (by omega), o sn n3 (by omega) (by omega)]
  exact ⟨e1, ⟨r1, r2, r3, r4, r5, r6⟩, e3, e4, e5, n1, n2, n3⟩
theorem c_cloop {n0 len to : Nat} (h18 : n0 = 53 ∨ 88 < n0) (hl : len ≤ 160) (hto : to ≤ len) {a1 a3 : Int32} : ∀ (os : List tOp) (i n n' : Nat) (h : am_H), Sh h → Tx n0 len n h → hR h n0 0 = some (n0 + 1) → hkd h (n0 + 1) = 100 → hln h (n0 + 1) = len → (∀ k o, os[k]? = some o → hI h (n0 + 1) (i + k) = encC o ∧ okOp o) → i + os.length = to → n ≤ i → depL os n = some n' → ∃ h1, Ev (d + 13) 86 39 [vr (some n0), vi a1, vr (some 18), vi a3, vi (nI to), vi (nI i)] [] h = Ev (d + 13) 86 64 [vr (some n0), vi a1, vr (some 18), vi a3, vi (nI to), vi (nI to)] [] h1 ∧ Ft n0 h h1 ∧ hI h1 18 = hI h 18 ∧ Tx n0 len n' h1 ∧ hI h1 (n0 + 2) = evL (hI h 18) os n (hI h (n0 + 2)) := by
  intro os
  induction os with
  | nil =>
    intro i n n' h S X r0 k1 l1 q e hn dp
    cases dp
    have : i = to := by simpa using e
    subst this
    refine ⟨h, ?_, Ft.rf, rfl, X, rfl⟩
    rw [B_86_39]
    simp (decide := true) (disch := (first | assumption | (simp only [Sh_setI, Sm_setI, Sh_setL, Sm_setL]; assumption) | omega)) only [n_le, Nat.le_refl, bI_True, bI_False, p_max, p_min, p_abs, Option.bind_some, Option.bind_none, Option.toList_some, Option.toList_none, List.cons_append, List.nil_append, bI_eq0, bI_ne0, bI_ne1, bI_eq1, bI_01, eq_self, true_or, or_true, and_true, true_and, false_and, and_false, false_or, or_false, ite_true, ite_false, if_true, if_false, not_true, not_false_iff, Classical.not_not, nem, ite_not, ne_eq]
  | cons o os ih =>
    intro i n n' h S X r0 k1 l1 q e hn dp
    obtain ⟨p, dp1, dp2⟩ := depL_cons dp
    have el : i + (os.length + 1) = to := e
    obtain ⟨qo, ok⟩ := q 0 o rfl
    have qo' : hI h (n0 + 1) i = encC o := qo
    obtain ⟨h1, e1, F1, f18, X1, v1⟩ := c_step (d := d + 3) S X h18 hl (by omega) ok dp1
    have K := X.1
    have := depO_le dp1
    obtain ⟨h2, e2, F2, g18, X2, v2⟩ := ih (i + 1) p n' h1 (F1.sh S) X1 (by rw [F1.2.2.2.1]; exact r0) (by rw [F1.2.1]; exact k1) (by rw [F1.2.2.1]; exact l1) (fun k o' w => by
      have := q (k + 1) o' w
      rw [show hI h1 (n0 + 1) = hI h (n0 + 1) from funext fun j => F1.2.2.2.2.2 (n0 + 1) j (by omega) (by omega) (by omega), show i + 1 + k = i + (k + 1) by omega]
      exact this) (by omega) (by omega) dp2
    refine ⟨h2, ?_, F1.tr F2, g18.trans f18, X2, ?_⟩
    · rw [B_86_39]
      simp (decide := true) (disch := (first | assumption | (simp only [Sh_setI, Sm_setI, Sh_setL, Sm_setL]; assumption) | omega)) only [n_le, show ¬ to ≤ i by omega, B_86_46 K, r0, k1, l1, n_ix, n_cl, qo', e1, B_86_58, n_addO, bI_True, bI_False, p_max, p_min, p_abs, Option.bind_some, Option.bind_none, Option.toList_some, Option.toList_none, List.cons_append, List.nil_append, bI_eq0, bI_ne0, bI_ne1, bI_eq1, bI_01, eq_self, true_or, or_true, and_true, true_and, false_and, and_false, false_or, or_false, ite_true, ite_false, if_true, if_false, not_true, not_false_iff, Classical.not_not, nem, ite_not, ne_eq]
      exact e2
    · rw [v2, f18, v1]
      simp only [evL]
      rw [dp1]
      rfl
theorem c_comesTo (S : Sh h) {t n0 : Nat} {A B : List tOp} (X : textAt_ m h t n0 A B) {part : Nat} (hp : part < 2) : ∃ h1, Cl (d + 13) 86 [vr (some n0), vi (nI part), vr (some 18)] h = some (some (vi (evL (hI h 18) (if part = 0 then A else B) 0 (hI h (n0 + 2)) 0)), h1) ∧ Ft n0 h h1 := by
  obtain ⟨x1, x2, x3, x4, x5, x6, x7, x8, x9, x10, x11, x12, x13, x14, x15, x16, x17, x18, x19⟩ := X
  rw [List.length_append] at *
  have hex : ∀ (os : List tOp) (i to : Nat), (∀ k o, os[k]? = some o → (A ++ B)[i + k]? = some o) → i + os.length = to → to ≤ A.length + B.length → depL os 0 = some 1 → ∃ h1, Ev (d + 13) 86 39 [vr (some n0), vi (nI part), vr (some 18), vi (nI i), vi (nI to), vi (nI i)] [] (setI h n0 3 0) = some (some (vi (evL (hI h 18) os 0 (hI h (n0 + 2)) 0)), h1) ∧ Ft n0 (setI h n0 3 0) h1 := by
    intro os i to q e hto dp
    obtain ⟨h1, e1, F1, f18, ⟨K1, r1, k2, l2, t3⟩, v1⟩ := c_cloop (d := d) (a1 := nI part) (a3 := nI i) x3 x11 hto os i 0 1 (setI h n0 3 0) S.si ⟨x2, x6, x8, x10, by rw [hI_eq, if_pos rfl]; rfl⟩ x5 x7 x9 (fun k o w => by
      have w' := q k o w
      rw [hI_ne (by omega)]
      exact ⟨(x17 _ o w').1, x16 o (List.mem_of_getElem? w')⟩) e (by omega) dp
    refine ⟨h1, e1.trans ?_, F1⟩
    rw [hI_ne (by omega), hI_ne (by omega)] at v1
    have ol : 0 < os.length := by
      cases os with
      | nil => exact absurd dp (by decide)
      | cons _ _ => exact Nat.succ_pos _
    simp (decide := true) (disch := (first | assumption | (simp only [Sh_setI, Sm_setI, Sh_setL, Sm_setL]; assumption) | omega)) only [B_86_64 K1, t3, n_leO, B_86_71 K1, r1, k2, l2, n_subO, Nat.sub_self, n_ix, n_cl, show 0 < A.length + B.length by omega, B_86_86, v1, bI_True, bI_False, p_max, p_min, p_abs, Option.bind_some, Option.bind_none, Option.toList_some, Option.toList_none, List.cons_append, List.nil_append, bI_eq0, bI_ne0, bI_ne1, bI_eq1, bI_01, eq_self, true_or, or_true, and_true, true_and, false_and, and_false, false_or, or_false, ite_true, ite_false, if_true, if_false, not_true, not_false_iff, Classical.not_not, nem, ite_not, ne_eq]
  have F0 : Ft n0 h (setI h n0 3 0) := Ft.rf.si (by omega)
  match part, hp with
  | 0, _ =>
    obtain ⟨h1, e1, F1⟩ := hex A 0 A.length (fun k o w => by
      rw [Nat.zero_add, List.getElem?_append_left (by exact (List.getElem?_eq_some_iff.mp w).1)]
      exact w) (by omega) (by omega) x18
    refine ⟨h1, ?_, F0.tr F1⟩
    simp (decide := true) (disch := (first | assumption | (simp only [Sh_setI, Sm_setI, Sh_setL, Sm_setL]; assumption) | omega)) only [E_86, B_86_0, B_86_4, B_86_12, n_eqO, B_86_17 x2, x12, B_86_29 x2, bI_True, bI_False, p_max, p_min, p_abs, Option.bind_some, Option.bind_none, Option.toList_some, Option.toList_none, List.cons_append, List.nil_append, bI_eq0, bI_ne0, bI_ne1, bI_eq1, bI_01, eq_self, true_or, or_true, and_true, true_and, false_and, and_false, false_or, or_false, ite_true, ite_false, if_true, if_false, not_true, not_false_iff, Classical.not_not, nem, ite_not, ne_eq]
    exact e1
  | 1, _ =>
    obtain ⟨h1, e1, F1⟩ := hex B A.length (A.length + B.length) (fun k o w => by
      rw [List.getElem?_append_right (by omega), Nat.add_sub_cancel_left]
      exact w) rfl (Nat.le_refl _) x19
    refine ⟨h1, ?_, F0.tr F1⟩
    simp (decide := true) (disch := (first | assumption | (simp only [Sh_setI, Sm_setI, Sh_setL, Sm_setL]; assumption) | omega)) only [E_86, B_86_0, B_86_12, n_eqO, B_86_8 x2, x12, B_86_24 x2, x5, x7, x9, B_86_29 x2, bI_True, bI_False, p_max, p_min, p_abs, Option.bind_some, Option.bind_none, Option.toList_some, Option.toList_none, List.cons_append, List.nil_append, bI_eq0, bI_ne0, bI_ne1, bI_eq1, bI_01, eq_self, true_or, or_true, and_true, true_and, false_and, and_false, false_or, or_false, ite_true, ite_false, if_true, if_false, not_true, not_false_iff, Classical.not_not, nem, ite_not, ne_eq]
    exact e1
theorem c_rule (S : Sh h) (I : Inv m) (C : CR m h) {c n dn sn : Nat} (E : Cd m h c n dn sn) (J : Ci m c) {n0 : Nat} {A B : List tOp} (X : textAt_ m h (cl (m 56 26)) n0 A B) {part : Nat} (hp : part < 2) {late : Int32} : ∃ h1, Cl (d + 17) 85 [vr (some 1), vr (some n), vi (nI part), vi late] h = some (some (vi (saysF m c late (if part = 0 then A else B))), h1) ∧ Ft n0 h h1 := by
  have k18 : hkd h 18 = 100 := S.kd (n := 18) (k := 100) rfl rfl
  have l18 : hln h 18 = 6 := S.ln (n := 18) (k := 6) rfl rfl
  obtain ⟨t1, t2⟩ := I.2.2.2.2.1.2
  have t3 : m 56 26 = nI (cl (m 56 26)) := t2.1
  have t4 : cl (m 56 26) < 6 := by have := t2.2; have := t1.1.2; unfold yT at *; omega
  have ct : hI h 1 12 = m 56 26 := C.2.2.2.2.1.2.2.1
  have xr := X.1
  have x2 := X.2.1
  have x3 := X.2.2.1
  generalize cl (m 56 26) = t at *
  obtain ⟨e1, ⟨r1, r2, r3, r4, r5, r6⟩, ⟨f0, f1, f2, f5, f6, f78⟩, ⟨d0, d1, d2, d3⟩, ⟨s0, s1, s2, s3⟩, n1, n2, n3⟩ := id E
  have F0 : Ft n0 h (setI h 18 0 (szF late 9999)) := Ft.rf.si (by omega)
  have ef := c_far (d := d + 10) (E.ft F0 x2 X.2.2.2.2.2.2.2.1) J
  have SF : Sh (setI (setI (setI (setI (setI (setI h 18 0 (szF late 9999)) 18 1 (nI (farN m c))) 18 2 (m 65 c)) 18 3 (m 61 (yDr m c))) 18 4 (m 60 (yDr m c))) 18 5 (m 63 (ySh m c))) := S.si.si.si.si.si.si
  have FF : Ft n0 h (setI (setI (setI (setI (setI (setI h 18 0 (szF late 9999)) 18 1 (nI (farN m c))) 18 2 (m 65 c)) 18 3 (m 61 (yDr m c))) 18 4 (m 60 (yDr m c))) 18 5 (m 63 (ySh m c))) := (((((F0.si (by omega)).si (by omega)).si (by omega)).si (by omega)).si (by omega))
  have XF : textAt_ m (setI (setI (setI (setI (setI (setI h 18 0 (szF late 9999)) 18 1 (nI (farN m c))) 18 2 (m 65 c)) 18 3 (m 61 (yDr m c))) 18 4 (m 60 (yDr m c))) 18 5 (m 63 (ySh m c))) t n0 A B := by
    unfold textAt_
    simp (decide := true) (disch := (first | assumption | (simp only [Sh_setI, Sm_setI, Sh_setL, Sm_setL]; assumption) | omega)) only [hI_ne, xR_setI, xkd_setI, xln_setI, xk_setI, bI_True, bI_False, p_max, p_min, p_abs, Option.bind_some, Option.bind_none, Option.toList_some, Option.toList_none, List.cons_append, List.nil_append, bI_eq0, bI_ne0, bI_ne1, bI_eq1, bI_01, eq_self, true_or, or_true, and_true, true_and, false_and, and_false, false_or, or_false, ite_true, ite_false, if_true, if_false, not_true, not_false_iff, Classical.not_not, nem, ite_not, ne_eq]
    exact X
  obtain ⟨h1, e2, F1⟩ := c_comesTo (d := d + 3) SF XF hp
  refine ⟨h1, ?_, FF.tr F1⟩
  have dp : depL (if part = 0 then A else B) 0 = some 1 := by
    split
    · exact X.2.2.2.2.2.2.2.2.2.2.2.2.2.2.2.2.2.1
    · exact X.2.2.2.2.2.2.2.2.2.2.2.2.2.2.2.2.2.2
  have okk : ∀ o, o ∈ (if part = 0 then A else B) → okOp o := fun o ho => X.2.2.2.2.2.2.2.2.2.2.2.2.2.2.2.1 o (by
    split at ho
    · exact List.mem_append_left _ ho
    · exact List.mem_append_right _ ho)
  have e3 : evL (hI (setI (setI (setI (setI (setI (setI h 18 0 (szF late 9999)) 18 1 (nI (farN m c))) 18 2 (m 65 c)) 18 3 (m 61 (yDr m c))) 18 4 (m 60 (yDr m c))) 18 5 (m 63 (ySh m c))) 18) (if part = 0 then A else B) 0 (hI (setI (setI (setI (setI (setI (setI h 18 0 (szF late 9999)) 18 1 (nI (farN m c))) 18 2 (m 65 c)) 18 3 (m 61 (yDr m c))) 18 4 (m 60 (yDr m c))) 18 5 (m 63 (ySh m c))) (n0 + 2)) 0 = saysF m c late (if part = 0 then A else B) := by
    rw [evL_F (G := factF m c late) _ _ _ okk (fun x hx => ?_), says_eq dp]
    simp (decide := true) (disch := (first | assumption | (simp only [Sh_setI, Sm_setI, Sh_setL, Sm_setL]; assumption) | omega)) only [hI_eq, bI_True, bI_False, p_max, p_min, p_abs, Option.bind_some, Option.bind_none, Option.toList_some, Option.toList_none, List.cons_append, List.nil_append, bI_eq0, bI_ne0, bI_ne1, bI_eq1, bI_01, eq_self, true_or, or_true, and_true, true_and, false_and, and_false, false_or, or_false, ite_true, ite_false, if_true, if_false, not_true, not_false_iff, Classical.not_not, nem, ite_not, ne_eq]
    match x, hx with
    | 0, _ => rfl
    | 1, _ => rfl
    | 2, _ => rfl
    | 3, _ => rfl
    | 4, _ => rfl
    | 5, _ => rfl
  rw [e3] at e2
  simp (decide := true) (disch := (first | assumption | (simp only [Sh_setI, Sm_setI, Sh_setL, Sm_setL]; assumption) | omega)) only [E_85, B_85_0, ct, t3, n_ix, n_cl, xr, reduceCtorEq, B_85_18 S, B_85_30, sz_min, B_85_33, n_clO, n_ixO, k18, l18, xkd_setI, r2, ef, bI_True, bI_False, p_max, p_min, p_abs, Option.bind_some, Option.bind_none, Option.toList_some, Option.toList_none, List.cons_append, List.nil_append, bI_eq0, bI_ne0, bI_ne1, bI_eq1, bI_01, eq_self, true_or, or_true, and_true, true_and, false_and, and_false, false_or, or_false, ite_true, ite_false, if_true, if_false, not_true, not_false_iff, Classical.not_not, nem, ite_not, ne_eq]
  simp (decide := true) (disch := (first | assumption | (simp only [Sh_setI, Sm_setI, Sh_setL, Sm_setL]; assumption) | omega)) only [B_85_43, k18, l18, xkd_setI, xln_setI, n_clO, n_ixO, r2, hI_ne, f0, B_85_54, xR_setI, r3, r5, d2, d3, B_85_80, r4, r6, s2, x2, e2, B_85_103, bI_True, bI_False, p_max, p_min, p_abs, Option.bind_some, Option.bind_none, Option.toList_some, Option.toList_none, List.cons_append, List.nil_append, bI_eq0, bI_ne0, bI_ne1, bI_eq1, bI_01, eq_self, true_or, or_true, and_true, true_and, false_and, and_false, false_or, or_false, ite_true, ite_false, if_true, if_false, not_true, not_false_iff, Classical.not_not, nem, ite_not, ne_eq]
end RULE
