/-! the law: all calls, one after another -/
def Lx (d : Nat) (E : Option (Option am_V × am_H)) (i : Nat) (h : am_H) : Prop := ∃ h2, E = Ev (d + 84) 0 18 [vr (some 0), vr (some 1), vr (some 56), vi (nI (i + 6))] [] h2 ∧ Rel h2 ∧ Gr h h2
theorem lx_sw {d e M : Nat} {ls st : List am_V} {h h0 : am_H} {x c : Int32} {df t i : Nat} {cs : List (Int32 × Nat)} (a : Lx d (Ev e M t ls st h) i h0) (b : Lx d (am_swE e M ls st h x df cs) i h0) : Lx d (am_swE e M ls st h x df ((c, t) :: cs)) i h0 := by
  rw [am_swE]
  split
  · exact a
  · exact b
theorem lp_cmp {L a : Nat} (hL : L ≤ 384) (ha : a ≤ 400) : (nI L - 6 < nI a) = (L < a + 6) := by
  by_cases q : 6 ≤ L
  · rw [show nI L - 6 = nI (L - 6) from by show nI L - nI 6 = _; rw [n_sub q], n_lt (by omega) (by omega)]
    exact propext ⟨fun w => by omega, fun w => by omega⟩
  · have p : (0 : Int32) ≤ nI a := nI_pos' (by omega)
    have ng : nI L - 6 < 0 := by
      rcases (by omega : L = 0 ∨ L = 1 ∨ L = 2 ∨ L = 3 ∨ L = 4 ∨ L = 5) with rfl | rfl | rfl | rfl | rfl | rfl <;> decide
    exact propext ⟨fun _ => by omega, fun _ => Int32.lt_of_lt_of_le ng p⟩
section BLOOP
variable {d : Nat} {h : am_H}
set_option maxRecDepth 30000 in
theorem V_0_203 {a3 : Int32} {s0 : Int32} (K56 : hkd h 56 = 11) {L : Nat} (K0 : hkd h 0 = 901) (L0 : hln h 0 = L) : Ev (d + 4) 0 203 [vr (some 0), vr (some 1), vr (some 56), vi a3] [vi s0] h = if am_ix (a3 + 1) L then if am_ix (a3 + 2) L then if am_ix (a3 + 3) L then (Cl (d + 3) 147 [vr (some 56), vi (hI h 0 (Int32.toNatClampNeg (a3 + 1))), vi (hI h 0 (Int32.toNatClampNeg (a3 + 2))), vi (hI h 0 (Int32.toNatClampNeg (a3 + 3)))] h).bind fun x => Ev (d + 4) 0 222 [vr (some 0), vr (some 1), vr (some 56), vi a3] (x.1.toList ++ [vi s0]) x.2 else none else none else none := by
  refine Eq.trans (op_aload_n (pc' := 204) rfl rfl rfl) ?_
  refine Eq.trans (op_aload_n (pc' := 205) rfl rfl rfl) ?_
  refine Eq.trans (op_iload_n (pc' := 206) rfl rfl rfl) ?_
  refine Eq.trans (op_iconst (pc' := 207) rfl rfl k32_1) ?_
  refine Eq.trans (op_iadd (pc' := 208) rfl rfl) ?_
  refine Eq.trans (sop_ialoadS (pc' := 209) rfl rfl K0 L0) (op_ite ?_)
  refine Eq.trans (op_aload_n (pc' := 210) rfl rfl rfl) ?_
  refine Eq.trans (op_iload_n (pc' := 211) rfl rfl rfl) ?_
  refine Eq.trans (op_iconst (pc' := 212) rfl rfl k32_2) ?_
  refine Eq.trans (op_iadd (pc' := 213) rfl rfl) ?_
  refine Eq.trans (sop_ialoadS (pc' := 214) rfl rfl K0 L0) (op_ite ?_)
  refine Eq.trans (op_aload_n (pc' := 215) rfl rfl rfl) ?_
  refine Eq.trans (op_iload_n (pc' := 216) rfl rfl rfl) ?_
  refine Eq.trans (op_iconst (pc' := 217) rfl rfl k32_3) ?_
  refine Eq.trans (op_iadd (pc' := 218) rfl rfl) ?_
  refine Eq.trans (sop_ialoadS (pc' := 219) rfl rfl K0 L0) (op_ite ?_)
  exact sop_virtual (pc' := 222) (m := 11) rfl rfl rfl rfl rfl rfl rfl rfl K56
theorem lp_0 (R : Rel h) (hb : hk h < 800000) {L i : Nat} (K0 : hkd h 0 = 901) (L0 : hln h 0 = L) (hi : i + 6 ≤ L) (hL : L ≤ 384) : Lx d (Ev (d + 84) 0 184 [vr (some 0), vr (some 1), vr (some 56), vi (nI i)] [] h) i h := by
  have st : Stq (d + 83) 33 147 [vi (hI h 0 (i + 1)), vi (hI h 0 (i + 2)), vi (hI h 0 (i + 3))] h := s_shell R
  obtain ⟨v, h1, h2, e1, e2, R2, G⟩ := st
  have Z := kz_Cl e1
  have K1 : hkd h1 0 = 901 := (Z.2 0 (Nat.zero_le _)).1.trans K0
  have L1 : hln h1 0 = L := (Z.2 0 (Nat.zero_le _)).2.1.trans L0
  have I1 : hI h1 0 = hI h 0 := (Z.2 0 (Nat.zero_le _)).2.2 K0
  have k56 : hkd h1 56 = 11 := (Z.2 56 (by have := R.2.1.1; omega)).1.trans (R.2.1.kd (n := 56) (k := 11) rfl rfl)
  obtain ⟨x, rfl⟩ := rt_i e1 rfl
  refine ⟨h2, ?_, R2, G⟩
  simp (decide := true) (disch := (first | assumption | (simp only [Sh_setI, Sm_setI, Sh_setL, Sm_setL]; assumption) | omega)) only [B_0_184 R.1 K0 L0, n_addO, n_ix, n_cl, e1, V_0_203 k56 K1 L1, I1, e2, B_0_222, B_0_1421, bI_True, bI_False, p_max, p_min, p_abs, Option.bind_some, Option.bind_none, Option.toList_some, Option.toList_none, List.cons_append, List.nil_append, bI_eq0, bI_ne0, bI_ne1, bI_eq1, bI_01, eq_self, true_or, or_true, and_true, true_and, false_and, and_false, false_or, or_false, ite_true, ite_false, if_true, if_false, not_true, not_false_iff, Classical.not_not, nem, ite_not, ne_eq]
set_option maxRecDepth 30000 in
theorem V_0_246 {a3 : Int32} {s0 : Int32} (K56 : hkd h 56 = 11) {L : Nat} (K0 : hkd h 0 = 901) (L0 : hln h 0 = L) : Ev (d + 4) 0 246 [vr (some 0), vr (some 1), vr (some 56), vi a3] [vi s0] h = if am_ix (a3 + 1) L then if am_ix (a3 + 2) L then if am_ix (a3 + 3) L then (Cl (d + 3) 149 [vr (some 56), vi (hI h 0 (Int32.toNatClampNeg (a3 + 1))), vi (hI h 0 (Int32.toNatClampNeg (a3 + 2))), vi (hI h 0 (Int32.toNatClampNeg (a3 + 3)))] h).bind fun x => Ev (d + 4) 0 265 [vr (some 0), vr (some 1), vr (some 56), vi a3] (x.1.toList ++ [vi s0]) x.2 else none else none else none := by
  refine Eq.trans (op_aload_n (pc' := 247) rfl rfl rfl) ?_
  refine Eq.trans (op_aload_n (pc' := 248) rfl rfl rfl) ?_
  refine Eq.trans (op_iload_n (pc' := 249) rfl rfl rfl) ?_
  refine Eq.trans (op_iconst (pc' := 250) rfl rfl k32_1) ?_
  refine Eq.trans (op_iadd (pc' := 251) rfl rfl) ?_
  refine Eq.trans (sop_ialoadS (pc' := 252) rfl rfl K0 L0) (op_ite ?_)
  refine Eq.trans (op_aload_n (pc' := 253) rfl rfl rfl) ?_
  refine Eq.trans (op_iload_n (pc' := 254) rfl rfl rfl) ?_
  refine Eq.trans (op_iconst (pc' := 255) rfl rfl k32_2) ?_
  refine Eq.trans (op_iadd (pc' := 256) rfl rfl) ?_
  refine Eq.trans (sop_ialoadS (pc' := 257) rfl rfl K0 L0) (op_ite ?_)
  refine Eq.trans (op_aload_n (pc' := 258) rfl rfl rfl) ?_
  refine Eq.trans (op_iload_n (pc' := 259) rfl rfl rfl) ?_
  refine Eq.trans (op_iconst (pc' := 260) rfl rfl k32_3) ?_
  refine Eq.trans (op_iadd (pc' := 261) rfl rfl) ?_
  refine Eq.trans (sop_ialoadS (pc' := 262) rfl rfl K0 L0) (op_ite ?_)
  exact sop_virtual (pc' := 265) (m := 11) rfl rfl rfl rfl rfl rfl rfl rfl K56
theorem lp_1 (R : Rel h) (hb : hk h < 800000) {L i : Nat} (K0 : hkd h 0 = 901) (L0 : hln h 0 = L) (hi : i + 6 ≤ L) (hL : L ≤ 384) : Lx d (Ev (d + 84) 0 227 [vr (some 0), vr (some 1), vr (some 56), vi (nI i)] [] h) i h := by
  have st : Stq (d + 83) 40 149 [vi (hI h 0 (i + 1)), vi (hI h 0 (i + 2)), vi (hI h 0 (i + 3))] h := s_pace R
  obtain ⟨v, h1, h2, e1, e2, R2, G⟩ := st
  have Z := kz_Cl e1
  have K1 : hkd h1 0 = 901 := (Z.2 0 (Nat.zero_le _)).1.trans K0
  have L1 : hln h1 0 = L := (Z.2 0 (Nat.zero_le _)).2.1.trans L0
  have I1 : hI h1 0 = hI h 0 := (Z.2 0 (Nat.zero_le _)).2.2 K0
  have k56 : hkd h1 56 = 11 := (Z.2 56 (by have := R.2.1.1; omega)).1.trans (R.2.1.kd (n := 56) (k := 11) rfl rfl)
  obtain ⟨x, rfl⟩ := rt_i e1 rfl
  refine ⟨h2, ?_, R2, G⟩
  simp (decide := true) (disch := (first | assumption | (simp only [Sh_setI, Sm_setI, Sh_setL, Sm_setL]; assumption) | omega)) only [B_0_227 R.1 K0 L0, n_addO, n_ix, n_cl, e1, V_0_246 k56 K1 L1, I1, e2, B_0_265, B_0_1421, bI_True, bI_False, p_max, p_min, p_abs, Option.bind_some, Option.bind_none, Option.toList_some, Option.toList_none, List.cons_append, List.nil_append, bI_eq0, bI_ne0, bI_ne1, bI_eq1, bI_01, eq_self, true_or, or_true, and_true, true_and, false_and, and_false, false_or, or_false, ite_true, ite_false, if_true, if_false, not_true, not_false_iff, Classical.not_not, nem, ite_not, ne_eq]
set_option maxRecDepth 30000 in
theorem V_0_289 {a3 : Int32} {s0 : Int32} (K56 : hkd h 56 = 11) {L : Nat} (K0 : hkd h 0 = 901) (L0 : hln h 0 = L) : Ev (d + 4) 0 289 [vr (some 0), vr (some 1), vr (some 56), vi a3] [vi s0] h = if am_ix (a3 + 1) L then if am_ix (a3 + 2) L then if am_ix (a3 + 3) L then (Cl (d + 3) 150 [vr (some 56), vi (hI h 0 (Int32.toNatClampNeg (a3 + 1))), vi (hI h 0 (Int32.toNatClampNeg (a3 + 2))), vi (hI h 0 (Int32.toNatClampNeg (a3 + 3)))] h).bind fun x => Ev (d + 4) 0 308 [vr (some 0), vr (some 1), vr (some 56), vi a3] (x.1.toList ++ [vi s0]) x.2 else none else none else none := by
  refine Eq.trans (op_aload_n (pc' := 290) rfl rfl rfl) ?_
  refine Eq.trans (op_aload_n (pc' := 291) rfl rfl rfl) ?_
  refine Eq.trans (op_iload_n (pc' := 292) rfl rfl rfl) ?_
  refine Eq.trans (op_iconst (pc' := 293) rfl rfl k32_1) ?_
  refine Eq.trans (op_iadd (pc' := 294) rfl rfl) ?_
  refine Eq.trans (sop_ialoadS (pc' := 295) rfl rfl K0 L0) (op_ite ?_)
  refine Eq.trans (op_aload_n (pc' := 296) rfl rfl rfl) ?_
  refine Eq.trans (op_iload_n (pc' := 297) rfl rfl rfl) ?_
  refine Eq.trans (op_iconst (pc' := 298) rfl rfl k32_2) ?_
  refine Eq.trans (op_iadd (pc' := 299) rfl rfl) ?_
  refine Eq.trans (sop_ialoadS (pc' := 300) rfl rfl K0 L0) (op_ite ?_)
  refine Eq.trans (op_aload_n (pc' := 301) rfl rfl rfl) ?_
  refine Eq.trans (op_iload_n (pc' := 302) rfl rfl rfl) ?_
  refine Eq.trans (op_iconst (pc' := 303) rfl rfl k32_3) ?_
  refine Eq.trans (op_iadd (pc' := 304) rfl rfl) ?_
  refine Eq.trans (sop_ialoadS (pc' := 305) rfl rfl K0 L0) (op_ite ?_)
  exact sop_virtual (pc' := 308) (m := 11) rfl rfl rfl rfl rfl rfl rfl rfl K56
theorem lp_2 (R : Rel h) (hb : hk h < 800000) {L i : Nat} (K0 : hkd h 0 = 901) (L0 : hln h 0 = L) (hi : i + 6 ≤ L) (hL : L ≤ 384) : Lx d (Ev (d + 84) 0 270 [vr (some 0), vr (some 1), vr (some 56), vi (nI i)] [] h) i h := by
  have st : Stq (d + 83) 44 150 [vi (hI h 0 (i + 1)), vi (hI h 0 (i + 2)), vi (hI h 0 (i + 3))] h := s_due R
  obtain ⟨v, h1, h2, e1, e2, R2, G⟩ := st
  have Z := kz_Cl e1
  have K1 : hkd h1 0 = 901 := (Z.2 0 (Nat.zero_le _)).1.trans K0
  have L1 : hln h1 0 = L := (Z.2 0 (Nat.zero_le _)).2.1.trans L0
  have I1 : hI h1 0 = hI h 0 := (Z.2 0 (Nat.zero_le _)).2.2 K0
  have k56 : hkd h1 56 = 11 := (Z.2 56 (by have := R.2.1.1; omega)).1.trans (R.2.1.kd (n := 56) (k := 11) rfl rfl)
  obtain ⟨x, rfl⟩ := rt_i e1 rfl
  refine ⟨h2, ?_, R2, G⟩
  simp (decide := true) (disch := (first | assumption | (simp only [Sh_setI, Sm_setI, Sh_setL, Sm_setL]; assumption) | omega)) only [B_0_270 R.1 K0 L0, n_addO, n_ix, n_cl, e1, V_0_289 k56 K1 L1, I1, e2, B_0_308, B_0_1421, bI_True, bI_False, p_max, p_min, p_abs, Option.bind_some, Option.bind_none, Option.toList_some, Option.toList_none, List.cons_append, List.nil_append, bI_eq0, bI_ne0, bI_ne1, bI_eq1, bI_01, eq_self, true_or, or_true, and_true, true_and, false_and, and_false, false_or, or_false, ite_true, ite_false, if_true, if_false, not_true, not_false_iff, Classical.not_not, nem, ite_not, ne_eq]
set_option maxRecDepth 30000 in
theorem V_0_327 {a3 : Int32} {s0 : Int32} (K56 : hkd h 56 = 11) {L : Nat} (K0 : hkd h 0 = 901) (L0 : hln h 0 = L) : Ev (d + 4) 0 327 [vr (some 0), vr (some 1), vr (some 56), vi a3] [vi s0] h = if am_ix (a3 + 1) L then if am_ix (a3 + 2) L then (Cl (d + 3) 156 [vr (some 56), vi (hI h 0 (Int32.toNatClampNeg (a3 + 1))), vi (hI h 0 (Int32.toNatClampNeg (a3 + 2)))] h).bind fun x => Ev (d + 4) 0 341 [vr (some 0), vr (some 1), vr (some 56), vi a3] (x.1.toList ++ [vi s0]) x.2 else none else none := by
  refine Eq.trans (op_aload_n (pc' := 328) rfl rfl rfl) ?_
  refine Eq.trans (op_aload_n (pc' := 329) rfl rfl rfl) ?_
  refine Eq.trans (op_iload_n (pc' := 330) rfl rfl rfl) ?_
  refine Eq.trans (op_iconst (pc' := 331) rfl rfl k32_1) ?_
  refine Eq.trans (op_iadd (pc' := 332) rfl rfl) ?_
  refine Eq.trans (sop_ialoadS (pc' := 333) rfl rfl K0 L0) (op_ite ?_)
  refine Eq.trans (op_aload_n (pc' := 334) rfl rfl rfl) ?_
  refine Eq.trans (op_iload_n (pc' := 335) rfl rfl rfl) ?_
  refine Eq.trans (op_iconst (pc' := 336) rfl rfl k32_2) ?_
  refine Eq.trans (op_iadd (pc' := 337) rfl rfl) ?_
  refine Eq.trans (sop_ialoadS (pc' := 338) rfl rfl K0 L0) (op_ite ?_)
  exact sop_virtual (pc' := 341) (m := 11) rfl rfl rfl rfl rfl rfl rfl rfl K56
theorem lp_3 (R : Rel h) (hb : hk h < 800000) {L i : Nat} (K0 : hkd h 0 = 901) (L0 : hln h 0 = L) (hi : i + 6 ≤ L) (hL : L ≤ 384) : Lx d (Ev (d + 84) 0 313 [vr (some 0), vr (some 1), vr (some 56), vi (nI i)] [] h) i h := by
  have st : Stq (d + 83) 55 156 [vi (hI h 0 (i + 1)), vi (hI h 0 (i + 2))] h := s_shadow R
  obtain ⟨v, h1, h2, e1, e2, R2, G⟩ := st
  have Z := kz_Cl e1
  have K1 : hkd h1 0 = 901 := (Z.2 0 (Nat.zero_le _)).1.trans K0
  have L1 : hln h1 0 = L := (Z.2 0 (Nat.zero_le _)).2.1.trans L0
  have I1 : hI h1 0 = hI h 0 := (Z.2 0 (Nat.zero_le _)).2.2 K0
  have k56 : hkd h1 56 = 11 := (Z.2 56 (by have := R.2.1.1; omega)).1.trans (R.2.1.kd (n := 56) (k := 11) rfl rfl)
  obtain ⟨x, rfl⟩ := rt_i e1 rfl
  refine ⟨h2, ?_, R2, G⟩
  simp (decide := true) (disch := (first | assumption | (simp only [Sh_setI, Sm_setI, Sh_setL, Sm_setL]; assumption) | omega)) only [B_0_313 R.1 K0 L0, n_addO, n_ix, n_cl, e1, V_0_327 k56 K1 L1, I1, e2, B_0_341, B_0_1421, bI_True, bI_False, p_max, p_min, p_abs, Option.bind_some, Option.bind_none, Option.toList_some, Option.toList_none, List.cons_append, List.nil_append, bI_eq0, bI_ne0, bI_ne1, bI_eq1, bI_01, eq_self, true_or, or_true, and_true, true_and, false_and, and_false, false_or, or_false, ite_true, ite_false, if_true, if_false, not_true, not_false_iff, Classical.not_not, nem, ite_not, ne_eq]
set_option maxRecDepth 30000 in
theorem V_0_365 {a3 : Int32} {s0 : Int32} (K56 : hkd h 56 = 11) {L : Nat} (K0 : hkd h 0 = 901) (L0 : hln h 0 = L) : Ev (d + 4) 0 365 [vr (some 0), vr (some 1), vr (some 56), vi a3] [vi s0] h = if am_ix (a3 + 1) L then if am_ix (a3 + 2) L then if am_ix (a3 + 3) L then (Cl (d + 3) 157 [vr (some 56), vi (hI h 0 (Int32.toNatClampNeg (a3 + 1))), vi (hI h 0 (Int32.toNatClampNeg (a3 + 2))), vi (hI h 0 (Int32.toNatClampNeg (a3 + 3)))] h).bind fun x => Ev (d + 4) 0 384 [vr (some 0), vr (some 1), vr (some 56), vi a3] (x.1.toList ++ [vi s0]) x.2 else none else none else none := by
  refine Eq.trans (op_aload_n (pc' := 366) rfl rfl rfl) ?_
  refine Eq.trans (op_aload_n (pc' := 367) rfl rfl rfl) ?_
  refine Eq.trans (op_iload_n (pc' := 368) rfl rfl rfl) ?_
  refine Eq.trans (op_iconst (pc' := 369) rfl rfl k32_1) ?_
  refine Eq.trans (op_iadd (pc' := 370) rfl rfl) ?_
  refine Eq.trans (sop_ialoadS (pc' := 371) rfl rfl K0 L0) (op_ite ?_)
  refine Eq.trans (op_aload_n (pc' := 372) rfl rfl rfl) ?_
  refine Eq.trans (op_iload_n (pc' := 373) rfl rfl rfl) ?_
  refine Eq.trans (op_iconst (pc' := 374) rfl rfl k32_2) ?_
  refine Eq.trans (op_iadd (pc' := 375) rfl rfl) ?_
  refine Eq.trans (sop_ialoadS (pc' := 376) rfl rfl K0 L0) (op_ite ?_)
  refine Eq.trans (op_aload_n (pc' := 377) rfl rfl rfl) ?_
  refine Eq.trans (op_iload_n (pc' := 378) rfl rfl rfl) ?_
  refine Eq.trans (op_iconst (pc' := 379) rfl rfl k32_3) ?_
  refine Eq.trans (op_iadd (pc' := 380) rfl rfl) ?_
  refine Eq.trans (sop_ialoadS (pc' := 381) rfl rfl K0 L0) (op_ite ?_)
  exact sop_virtual (pc' := 384) (m := 11) rfl rfl rfl rfl rfl rfl rfl rfl K56
theorem lp_4 (R : Rel h) (hb : hk h < 800000) {L i : Nat} (K0 : hkd h 0 = 901) (L0 : hln h 0 = L) (hi : i + 6 ≤ L) (hL : L ≤ 384) : Lx d (Ev (d + 84) 0 346 [vr (some 0), vr (some 1), vr (some 56), vi (nI i)] [] h) i h := by
  have st : Stq (d + 83) 56 157 [vi (hI h 0 (i + 1)), vi (hI h 0 (i + 2)), vi (hI h 0 (i + 3))] h := s_drum R (by omega)
  obtain ⟨v, h1, h2, e1, e2, R2, G⟩ := st
  have Z := kz_Cl e1
  have K1 : hkd h1 0 = 901 := (Z.2 0 (Nat.zero_le _)).1.trans K0
  have L1 : hln h1 0 = L := (Z.2 0 (Nat.zero_le _)).2.1.trans L0
  have I1 : hI h1 0 = hI h 0 := (Z.2 0 (Nat.zero_le _)).2.2 K0
  have k56 : hkd h1 56 = 11 := (Z.2 56 (by have := R.2.1.1; omega)).1.trans (R.2.1.kd (n := 56) (k := 11) rfl rfl)
  obtain ⟨x, rfl⟩ := rt_i e1 rfl
  refine ⟨h2, ?_, R2, G⟩
  simp (decide := true) (disch := (first | assumption | (simp only [Sh_setI, Sm_setI, Sh_setL, Sm_setL]; assumption) | omega)) only [B_0_346 R.1 K0 L0, n_addO, n_ix, n_cl, e1, V_0_365 k56 K1 L1, I1, e2, B_0_384, B_0_1421, bI_True, bI_False, p_max, p_min, p_abs, Option.bind_some, Option.bind_none, Option.toList_some, Option.toList_none, List.cons_append, List.nil_append, bI_eq0, bI_ne0, bI_ne1, bI_eq1, bI_01, eq_self, true_or, or_true, and_true, true_and, false_and, and_false, false_or, or_false, ite_true, ite_false, if_true, if_false, not_true, not_false_iff, Classical.not_not, nem, ite_not, ne_eq]
set_option maxRecDepth 30000 in
theorem V_0_403 {a3 : Int32} {s0 : Int32} (K56 : hkd h 56 = 11) {L : Nat} (K0 : hkd h 0 = 901) (L0 : hln h 0 = L) : Ev (d + 4) 0 403 [vr (some 0), vr (some 1), vr (some 56), vi a3] [vi s0] h = if am_ix (a3 + 1) L then if am_ix (a3 + 2) L then (Cl (d + 3) 159 [vr (some 56), vi (hI h 0 (Int32.toNatClampNeg (a3 + 1))), vi (hI h 0 (Int32.toNatClampNeg (a3 + 2)))] h).bind fun x => Ev (d + 4) 0 417 [vr (some 0), vr (some 1), vr (some 56), vi a3] (x.1.toList ++ [vi s0]) x.2 else none else none := by
  refine Eq.trans (op_aload_n (pc' := 404) rfl rfl rfl) ?_
  refine Eq.trans (op_aload_n (pc' := 405) rfl rfl rfl) ?_
  refine Eq.trans (op_iload_n (pc' := 406) rfl rfl rfl) ?_
  refine Eq.trans (op_iconst (pc' := 407) rfl rfl k32_1) ?_
  refine Eq.trans (op_iadd (pc' := 408) rfl rfl) ?_
  refine Eq.trans (sop_ialoadS (pc' := 409) rfl rfl K0 L0) (op_ite ?_)
  refine Eq.trans (op_aload_n (pc' := 410) rfl rfl rfl) ?_
  refine Eq.trans (op_iload_n (pc' := 411) rfl rfl rfl) ?_
  refine Eq.trans (op_iconst (pc' := 412) rfl rfl k32_2) ?_
  refine Eq.trans (op_iadd (pc' := 413) rfl rfl) ?_
  refine Eq.trans (sop_ialoadS (pc' := 414) rfl rfl K0 L0) (op_ite ?_)
  exact sop_virtual (pc' := 417) (m := 11) rfl rfl rfl rfl rfl rfl rfl rfl K56
theorem lp_5 (R : Rel h) (hb : hk h < 800000) {L i : Nat} (K0 : hkd h 0 = 901) (L0 : hln h 0 = L) (hi : i + 6 ≤ L) (hL : L ≤ 384) : Lx d (Ev (d + 84) 0 389 [vr (some 0), vr (some 1), vr (some 56), vi (nI i)] [] h) i h := by
  have st : Stq (d + 83) 60 159 [vi (hI h 0 (i + 1)), vi (hI h 0 (i + 2))] h := s_clock R
  obtain ⟨v, h1, h2, e1, e2, R2, G⟩ := st
  have Z := kz_Cl e1
  have K1 : hkd h1 0 = 901 := (Z.2 0 (Nat.zero_le _)).1.trans K0
  have L1 : hln h1 0 = L := (Z.2 0 (Nat.zero_le _)).2.1.trans L0
  have I1 : hI h1 0 = hI h 0 := (Z.2 0 (Nat.zero_le _)).2.2 K0
  have k56 : hkd h1 56 = 11 := (Z.2 56 (by have := R.2.1.1; omega)).1.trans (R.2.1.kd (n := 56) (k := 11) rfl rfl)
  obtain ⟨x, rfl⟩ := rt_i e1 rfl
  refine ⟨h2, ?_, R2, G⟩
  simp (decide := true) (disch := (first | assumption | (simp only [Sh_setI, Sm_setI, Sh_setL, Sm_setL]; assumption) | omega)) only [B_0_389 R.1 K0 L0, n_addO, n_ix, n_cl, e1, V_0_403 k56 K1 L1, I1, e2, B_0_417, B_0_1421, bI_True, bI_False, p_max, p_min, p_abs, Option.bind_some, Option.bind_none, Option.toList_some, Option.toList_none, List.cons_append, List.nil_append, bI_eq0, bI_ne0, bI_ne1, bI_eq1, bI_01, eq_self, true_or, or_true, and_true, true_and, false_and, and_false, false_or, or_false, ite_true, ite_false, if_true, if_false, not_true, not_false_iff, Classical.not_not, nem, ite_not, ne_eq]
set_option maxRecDepth 30000 in
theorem V_0_441 {a3 : Int32} {s0 : Int32} (K56 : hkd h 56 = 11) {L : Nat} (K0 : hkd h 0 = 901) (L0 : hln h 0 = L) : Ev (d + 4) 0 441 [vr (some 0), vr (some 1), vr (some 56), vi a3] [vi s0] h = if am_ix (a3 + 1) L then if am_ix (a3 + 2) L then if am_ix (a3 + 3) L then (Cl (d + 3) 160 [vr (some 56), vi (hI h 0 (Int32.toNatClampNeg (a3 + 1))), vi (hI h 0 (Int32.toNatClampNeg (a3 + 2))), vi (hI h 0 (Int32.toNatClampNeg (a3 + 3)))] h).bind fun x => Ev (d + 4) 0 460 [vr (some 0), vr (some 1), vr (some 56), vi a3] (x.1.toList ++ [vi s0]) x.2 else none else none else none := by
  refine Eq.trans (op_aload_n (pc' := 442) rfl rfl rfl) ?_
  refine Eq.trans (op_aload_n (pc' := 443) rfl rfl rfl) ?_
  refine Eq.trans (op_iload_n (pc' := 444) rfl rfl rfl) ?_
  refine Eq.trans (op_iconst (pc' := 445) rfl rfl k32_1) ?_
  refine Eq.trans (op_iadd (pc' := 446) rfl rfl) ?_
  refine Eq.trans (sop_ialoadS (pc' := 447) rfl rfl K0 L0) (op_ite ?_)
  refine Eq.trans (op_aload_n (pc' := 448) rfl rfl rfl) ?_
  refine Eq.trans (op_iload_n (pc' := 449) rfl rfl rfl) ?_
  refine Eq.trans (op_iconst (pc' := 450) rfl rfl k32_2) ?_
  refine Eq.trans (op_iadd (pc' := 451) rfl rfl) ?_
  refine Eq.trans (sop_ialoadS (pc' := 452) rfl rfl K0 L0) (op_ite ?_)
  refine Eq.trans (op_aload_n (pc' := 453) rfl rfl rfl) ?_
  refine Eq.trans (op_iload_n (pc' := 454) rfl rfl rfl) ?_
  refine Eq.trans (op_iconst (pc' := 455) rfl rfl k32_3) ?_
  refine Eq.trans (op_iadd (pc' := 456) rfl rfl) ?_
  refine Eq.trans (sop_ialoadS (pc' := 457) rfl rfl K0 L0) (op_ite ?_)
  exact sop_virtual (pc' := 460) (m := 11) rfl rfl rfl rfl rfl rfl rfl rfl K56
theorem lp_6 (R : Rel h) (hb : hk h < 800000) {L i : Nat} (K0 : hkd h 0 = 901) (L0 : hln h 0 = L) (hi : i + 6 ≤ L) (hL : L ≤ 384) : Lx d (Ev (d + 84) 0 422 [vr (some 0), vr (some 1), vr (some 56), vi (nI i)] [] h) i h := by
  have st : Stq (d + 83) 62 160 [vi (hI h 0 (i + 1)), vi (hI h 0 (i + 2)), vi (hI h 0 (i + 3))] h := s_shake R (by omega)
  obtain ⟨v, h1, h2, e1, e2, R2, G⟩ := st
  have Z := kz_Cl e1
  have K1 : hkd h1 0 = 901 := (Z.2 0 (Nat.zero_le _)).1.trans K0
  have L1 : hln h1 0 = L := (Z.2 0 (Nat.zero_le _)).2.1.trans L0
  have I1 : hI h1 0 = hI h 0 := (Z.2 0 (Nat.zero_le _)).2.2 K0
  have k56 : hkd h1 56 = 11 := (Z.2 56 (by have := R.2.1.1; omega)).1.trans (R.2.1.kd (n := 56) (k := 11) rfl rfl)
  obtain ⟨x, rfl⟩ := rt_i e1 rfl
  refine ⟨h2, ?_, R2, G⟩
  simp (decide := true) (disch := (first | assumption | (simp only [Sh_setI, Sm_setI, Sh_setL, Sm_setL]; assumption) | omega)) only [B_0_422 R.1 K0 L0, n_addO, n_ix, n_cl, e1, V_0_441 k56 K1 L1, I1, e2, B_0_460, B_0_1421, bI_True, bI_False, p_max, p_min, p_abs, Option.bind_some, Option.bind_none, Option.toList_some, Option.toList_none, List.cons_append, List.nil_append, bI_eq0, bI_ne0, bI_ne1, bI_eq1, bI_01, eq_self, true_or, or_true, and_true, true_and, false_and, and_false, false_or, or_false, ite_true, ite_false, if_true, if_false, not_true, not_false_iff, Classical.not_not, nem, ite_not, ne_eq]
set_option maxRecDepth 30000 in
theorem V_0_474 {a3 : Int32} {s0 : Int32} (K56 : hkd h 56 = 11) {L : Nat} (K0 : hkd h 0 = 901) (L0 : hln h 0 = L) : Ev (d + 4) 0 474 [vr (some 0), vr (some 1), vr (some 56), vi a3] [vi s0] h = if am_ix (a3 + 1) L then (Cl (d + 3) 161 [vr (some 56), vi (hI h 0 (Int32.toNatClampNeg (a3 + 1)))] h).bind fun x => Ev (d + 4) 0 483 [vr (some 0), vr (some 1), vr (some 56), vi a3] (x.1.toList ++ [vi s0]) x.2 else none := by
  refine Eq.trans (op_aload_n (pc' := 475) rfl rfl rfl) ?_
  refine Eq.trans (op_aload_n (pc' := 476) rfl rfl rfl) ?_
  refine Eq.trans (op_iload_n (pc' := 477) rfl rfl rfl) ?_
  refine Eq.trans (op_iconst (pc' := 478) rfl rfl k32_1) ?_
  refine Eq.trans (op_iadd (pc' := 479) rfl rfl) ?_
  refine Eq.trans (sop_ialoadS (pc' := 480) rfl rfl K0 L0) (op_ite ?_)
  exact sop_virtual (pc' := 483) (m := 11) rfl rfl rfl rfl rfl rfl rfl rfl K56
theorem lp_7 (R : Rel h) (hb : hk h < 800000) {L i : Nat} (K0 : hkd h 0 = 901) (L0 : hln h 0 = L) (hi : i + 6 ≤ L) (hL : L ≤ 384) : Lx d (Ev (d + 84) 0 465 [vr (some 0), vr (some 1), vr (some 56), vi (nI i)] [] h) i h := by
  have st : Stq (d + 83) 65 161 [vi (hI h 0 (i + 1))] h := s_days R
  obtain ⟨v, h1, h2, e1, e2, R2, G⟩ := st
  have Z := kz_Cl e1
  have K1 : hkd h1 0 = 901 := (Z.2 0 (Nat.zero_le _)).1.trans K0
  have L1 : hln h1 0 = L := (Z.2 0 (Nat.zero_le _)).2.1.trans L0
  have I1 : hI h1 0 = hI h 0 := (Z.2 0 (Nat.zero_le _)).2.2 K0
  have k56 : hkd h1 56 = 11 := (Z.2 56 (by have := R.2.1.1; omega)).1.trans (R.2.1.kd (n := 56) (k := 11) rfl rfl)
  obtain ⟨x, rfl⟩ := rt_i e1 rfl
  refine ⟨h2, ?_, R2, G⟩
  simp (decide := true) (disch := (first | assumption | (simp only [Sh_setI, Sm_setI, Sh_setL, Sm_setL]; assumption) | omega)) only [B_0_465 R.1 K0 L0, n_addO, n_ix, n_cl, e1, V_0_474 k56 K1 L1, I1, e2, B_0_483, B_0_1421, bI_True, bI_False, p_max, p_min, p_abs, Option.bind_some, Option.bind_none, Option.toList_some, Option.toList_none, List.cons_append, List.nil_append, bI_eq0, bI_ne0, bI_ne1, bI_eq1, bI_01, eq_self, true_or, or_true, and_true, true_and, false_and, and_false, false_or, or_false, ite_true, ite_false, if_true, if_false, not_true, not_false_iff, Classical.not_not, nem, ite_not, ne_eq]
set_option maxRecDepth 30000 in
theorem V_0_512 {a3 : Int32} {s0 : Int32} (K56 : hkd h 56 = 11) {L : Nat} (K0 : hkd h 0 = 901) (L0 : hln h 0 = L) : Ev (d + 4) 0 512 [vr (some 0), vr (some 1), vr (some 56), vi a3] [vi s0] h = if am_ix (a3 + 1) L then if am_ix (a3 + 2) L then if am_ix (a3 + 3) L then if am_ix (a3 + 4) L then (Cl (d + 3) 162 [vr (some 56), vi (hI h 0 (Int32.toNatClampNeg (a3 + 1))), vi (hI h 0 (Int32.toNatClampNeg (a3 + 2))), vi (hI h 0 (Int32.toNatClampNeg (a3 + 3))), vi (hI h 0 (Int32.toNatClampNeg (a3 + 4)))] h).bind fun x => Ev (d + 4) 0 536 [vr (some 0), vr (some 1), vr (some 56), vi a3] (x.1.toList ++ [vi s0]) x.2 else none else none else none else none := by
  refine Eq.trans (op_aload_n (pc' := 513) rfl rfl rfl) ?_
  refine Eq.trans (op_aload_n (pc' := 514) rfl rfl rfl) ?_
  refine Eq.trans (op_iload_n (pc' := 515) rfl rfl rfl) ?_
  refine Eq.trans (op_iconst (pc' := 516) rfl rfl k32_1) ?_
  refine Eq.trans (op_iadd (pc' := 517) rfl rfl) ?_
  refine Eq.trans (sop_ialoadS (pc' := 518) rfl rfl K0 L0) (op_ite ?_)
  refine Eq.trans (op_aload_n (pc' := 519) rfl rfl rfl) ?_
  refine Eq.trans (op_iload_n (pc' := 520) rfl rfl rfl) ?_
  refine Eq.trans (op_iconst (pc' := 521) rfl rfl k32_2) ?_
  refine Eq.trans (op_iadd (pc' := 522) rfl rfl) ?_
  refine Eq.trans (sop_ialoadS (pc' := 523) rfl rfl K0 L0) (op_ite ?_)
  refine Eq.trans (op_aload_n (pc' := 524) rfl rfl rfl) ?_
  refine Eq.trans (op_iload_n (pc' := 525) rfl rfl rfl) ?_
  refine Eq.trans (op_iconst (pc' := 526) rfl rfl k32_3) ?_
  refine Eq.trans (op_iadd (pc' := 527) rfl rfl) ?_
  refine Eq.trans (sop_ialoadS (pc' := 528) rfl rfl K0 L0) (op_ite ?_)
  refine Eq.trans (op_aload_n (pc' := 529) rfl rfl rfl) ?_
  refine Eq.trans (op_iload_n (pc' := 530) rfl rfl rfl) ?_
  refine Eq.trans (op_iconst (pc' := 531) rfl rfl k32_4) ?_
  refine Eq.trans (op_iadd (pc' := 532) rfl rfl) ?_
  refine Eq.trans (sop_ialoadS (pc' := 533) rfl rfl K0 L0) (op_ite ?_)
  exact sop_virtual (pc' := 536) (m := 11) rfl rfl rfl rfl rfl rfl rfl rfl K56
theorem lp_8 (R : Rel h) (hb : hk h < 800000) {L i : Nat} (K0 : hkd h 0 = 901) (L0 : hln h 0 = L) (hi : i + 6 ≤ L) (hL : L ≤ 384) : Lx d (Ev (d + 84) 0 488 [vr (some 0), vr (some 1), vr (some 56), vi (nI i)] [] h) i h := by
  have st : Stq (d + 83) 66 162 [vi (hI h 0 (i + 1)), vi (hI h 0 (i + 2)), vi (hI h 0 (i + 3)), vi (hI h 0 (i + 4))] h := s_card R (by omega)
  obtain ⟨v, h1, h2, e1, e2, R2, G⟩ := st
  have Z := kz_Cl e1
  have K1 : hkd h1 0 = 901 := (Z.2 0 (Nat.zero_le _)).1.trans K0
  have L1 : hln h1 0 = L := (Z.2 0 (Nat.zero_le _)).2.1.trans L0
  have I1 : hI h1 0 = hI h 0 := (Z.2 0 (Nat.zero_le _)).2.2 K0
  have k56 : hkd h1 56 = 11 := (Z.2 56 (by have := R.2.1.1; omega)).1.trans (R.2.1.kd (n := 56) (k := 11) rfl rfl)
  obtain ⟨x, rfl⟩ := rt_i e1 rfl
  refine ⟨h2, ?_, R2, G⟩
  simp (decide := true) (disch := (first | assumption | (simp only [Sh_setI, Sm_setI, Sh_setL, Sm_setL]; assumption) | omega)) only [B_0_488 R.1 K0 L0, n_addO, n_ix, n_cl, e1, V_0_512 k56 K1 L1, I1, e2, B_0_536, B_0_1421, bI_True, bI_False, p_max, p_min, p_abs, Option.bind_some, Option.bind_none, Option.toList_some, Option.toList_none, List.cons_append, List.nil_append, bI_eq0, bI_ne0, bI_ne1, bI_eq1, bI_01, eq_self, true_or, or_true, and_true, true_and, false_and, and_false, false_or, or_false, ite_true, ite_false, if_true, if_false, not_true, not_false_iff, Classical.not_not, nem, ite_not, ne_eq]
set_option maxRecDepth 30000 in
theorem V_0_555 {a3 : Int32} {s0 : Int32} (K56 : hkd h 56 = 11) {L : Nat} (K0 : hkd h 0 = 901) (L0 : hln h 0 = L) : Ev (d + 4) 0 555 [vr (some 0), vr (some 1), vr (some 56), vi a3] [vi s0] h = if am_ix (a3 + 1) L then if am_ix (a3 + 2) L then (Cl (d + 3) 164 [vr (some 56), vi (hI h 0 (Int32.toNatClampNeg (a3 + 1))), vi (hI h 0 (Int32.toNatClampNeg (a3 + 2)))] h).bind fun x => Ev (d + 4) 0 569 [vr (some 0), vr (some 1), vr (some 56), vi a3] (x.1.toList ++ [vi s0]) x.2 else none else none := by
  refine Eq.trans (op_aload_n (pc' := 556) rfl rfl rfl) ?_
  refine Eq.trans (op_aload_n (pc' := 557) rfl rfl rfl) ?_
  refine Eq.trans (op_iload_n (pc' := 558) rfl rfl rfl) ?_
  refine Eq.trans (op_iconst (pc' := 559) rfl rfl k32_1) ?_
  refine Eq.trans (op_iadd (pc' := 560) rfl rfl) ?_
  refine Eq.trans (sop_ialoadS (pc' := 561) rfl rfl K0 L0) (op_ite ?_)
  refine Eq.trans (op_aload_n (pc' := 562) rfl rfl rfl) ?_
  refine Eq.trans (op_iload_n (pc' := 563) rfl rfl rfl) ?_
  refine Eq.trans (op_iconst (pc' := 564) rfl rfl k32_2) ?_
  refine Eq.trans (op_iadd (pc' := 565) rfl rfl) ?_
  refine Eq.trans (sop_ialoadS (pc' := 566) rfl rfl K0 L0) (op_ite ?_)
  exact sop_virtual (pc' := 569) (m := 11) rfl rfl rfl rfl rfl rfl rfl rfl K56
theorem lp_9 (R : Rel h) (hb : hk h < 800000) {L i : Nat} (K0 : hkd h 0 = 901) (L0 : hln h 0 = L) (hi : i + 6 ≤ L) (hL : L ≤ 384) : Lx d (Ev (d + 84) 0 541 [vr (some 0), vr (some 1), vr (some 56), vi (nI i)] [] h) i h := by
  have st : Stq (d + 83) 69 164 [vi (hI h 0 (i + 1)), vi (hI h 0 (i + 2))] h := s_mend R
  obtain ⟨v, h1, h2, e1, e2, R2, G⟩ := st
  have Z := kz_Cl e1
  have K1 : hkd h1 0 = 901 := (Z.2 0 (Nat.zero_le _)).1.trans K0
  have L1 : hln h1 0 = L := (Z.2 0 (Nat.zero_le _)).2.1.trans L0
  have I1 : hI h1 0 = hI h 0 := (Z.2 0 (Nat.zero_le _)).2.2 K0
  have k56 : hkd h1 56 = 11 := (Z.2 56 (by have := R.2.1.1; omega)).1.trans (R.2.1.kd (n := 56) (k := 11) rfl rfl)
  obtain ⟨x, rfl⟩ := rt_i e1 rfl
  refine ⟨h2, ?_, R2, G⟩
  simp (decide := true) (disch := (first | assumption | (simp only [Sh_setI, Sm_setI, Sh_setL, Sm_setL]; assumption) | omega)) only [B_0_541 R.1 K0 L0, n_addO, n_ix, n_cl, e1, V_0_555 k56 K1 L1, I1, e2, B_0_569, B_0_1421, bI_True, bI_False, p_max, p_min, p_abs, Option.bind_some, Option.bind_none, Option.toList_some, Option.toList_none, List.cons_append, List.nil_append, bI_eq0, bI_ne0, bI_ne1, bI_eq1, bI_01, eq_self, true_or, or_true, and_true, true_and, false_and, and_false, false_or, or_false, ite_true, ite_false, if_true, if_false, not_true, not_false_iff, Classical.not_not, nem, ite_not, ne_eq]
set_option maxRecDepth 30000 in
theorem V_0_588 {a3 : Int32} {s0 : Int32} (K56 : hkd h 56 = 11) {L : Nat} (K0 : hkd h 0 = 901) (L0 : hln h 0 = L) : Ev (d + 4) 0 588 [vr (some 0), vr (some 1), vr (some 56), vi a3] [vi s0] h = if am_ix (a3 + 1) L then if am_ix (a3 + 2) L then (Cl (d + 3) 166 [vr (some 56), vi (hI h 0 (Int32.toNatClampNeg (a3 + 1))), vi (hI h 0 (Int32.toNatClampNeg (a3 + 2)))] h).bind fun x => Ev (d + 4) 0 602 [vr (some 0), vr (some 1), vr (some 56), vi a3] (x.1.toList ++ [vi s0]) x.2 else none else none := by
  refine Eq.trans (op_aload_n (pc' := 589) rfl rfl rfl) ?_
  refine Eq.trans (op_aload_n (pc' := 590) rfl rfl rfl) ?_
  refine Eq.trans (op_iload_n (pc' := 591) rfl rfl rfl) ?_
  refine Eq.trans (op_iconst (pc' := 592) rfl rfl k32_1) ?_
  refine Eq.trans (op_iadd (pc' := 593) rfl rfl) ?_
  refine Eq.trans (sop_ialoadS (pc' := 594) rfl rfl K0 L0) (op_ite ?_)
  refine Eq.trans (op_aload_n (pc' := 595) rfl rfl rfl) ?_
  refine Eq.trans (op_iload_n (pc' := 596) rfl rfl rfl) ?_
  refine Eq.trans (op_iconst (pc' := 597) rfl rfl k32_2) ?_
  refine Eq.trans (op_iadd (pc' := 598) rfl rfl) ?_
  refine Eq.trans (sop_ialoadS (pc' := 599) rfl rfl K0 L0) (op_ite ?_)
  exact sop_virtual (pc' := 602) (m := 11) rfl rfl rfl rfl rfl rfl rfl rfl K56
theorem lp_10 (R : Rel h) (hb : hk h < 800000) {L i : Nat} (K0 : hkd h 0 = 901) (L0 : hln h 0 = L) (hi : i + 6 ≤ L) (hL : L ≤ 384) : Lx d (Ev (d + 84) 0 574 [vr (some 0), vr (some 1), vr (some 56), vi (nI i)] [] h) i h := by
  have st : Stq (d + 83) 71 166 [vi (hI h 0 (i + 1)), vi (hI h 0 (i + 2))] h := s_wrong R
  obtain ⟨v, h1, h2, e1, e2, R2, G⟩ := st
  have Z := kz_Cl e1
  have K1 : hkd h1 0 = 901 := (Z.2 0 (Nat.zero_le _)).1.trans K0
  have L1 : hln h1 0 = L := (Z.2 0 (Nat.zero_le _)).2.1.trans L0
  have I1 : hI h1 0 = hI h 0 := (Z.2 0 (Nat.zero_le _)).2.2 K0
  have k56 : hkd h1 56 = 11 := (Z.2 56 (by have := R.2.1.1; omega)).1.trans (R.2.1.kd (n := 56) (k := 11) rfl rfl)
  obtain ⟨x, rfl⟩ := rt_i e1 rfl
  refine ⟨h2, ?_, R2, G⟩
  simp (decide := true) (disch := (first | assumption | (simp only [Sh_setI, Sm_setI, Sh_setL, Sm_setL]; assumption) | omega)) only [B_0_574 R.1 K0 L0, n_addO, n_ix, n_cl, e1, V_0_588 k56 K1 L1, I1, e2, B_0_602, B_0_1421, bI_True, bI_False, p_max, p_min, p_abs, Option.bind_some, Option.bind_none, Option.toList_some, Option.toList_none, List.cons_append, List.nil_append, bI_eq0, bI_ne0, bI_ne1, bI_eq1, bI_01, eq_self, true_or, or_true, and_true, true_and, false_and, and_false, false_or, or_false, ite_true, ite_false, if_true, if_false, not_true, not_false_iff, Classical.not_not, nem, ite_not, ne_eq]
set_option maxRecDepth 30000 in
theorem V_0_626 {a3 : Int32} {s0 : Int32} (K56 : hkd h 56 = 11) {L : Nat} (K0 : hkd h 0 = 901) (L0 : hln h 0 = L) : Ev (d + 4) 0 626 [vr (some 0), vr (some 1), vr (some 56), vi a3] [vi s0] h = if am_ix (a3 + 1) L then if am_ix (a3 + 2) L then if am_ix (a3 + 3) L then (Cl (d + 3) 167 [vr (some 56), vi (hI h 0 (Int32.toNatClampNeg (a3 + 1))), vi (hI h 0 (Int32.toNatClampNeg (a3 + 2))), vi (hI h 0 (Int32.toNatClampNeg (a3 + 3)))] h).bind fun x => Ev (d + 4) 0 645 [vr (some 0), vr (some 1), vr (some 56), vi a3] (x.1.toList ++ [vi s0]) x.2 else none else none else none := by
  refine Eq.trans (op_aload_n (pc' := 627) rfl rfl rfl) ?_
  refine Eq.trans (op_aload_n (pc' := 628) rfl rfl rfl) ?_
  refine Eq.trans (op_iload_n (pc' := 629) rfl rfl rfl) ?_
  refine Eq.trans (op_iconst (pc' := 630) rfl rfl k32_1) ?_
  refine Eq.trans (op_iadd (pc' := 631) rfl rfl) ?_
  refine Eq.trans (sop_ialoadS (pc' := 632) rfl rfl K0 L0) (op_ite ?_)
  refine Eq.trans (op_aload_n (pc' := 633) rfl rfl rfl) ?_
  refine Eq.trans (op_iload_n (pc' := 634) rfl rfl rfl) ?_
  refine Eq.trans (op_iconst (pc' := 635) rfl rfl k32_2) ?_
  refine Eq.trans (op_iadd (pc' := 636) rfl rfl) ?_
  refine Eq.trans (sop_ialoadS (pc' := 637) rfl rfl K0 L0) (op_ite ?_)
  refine Eq.trans (op_aload_n (pc' := 638) rfl rfl rfl) ?_
  refine Eq.trans (op_iload_n (pc' := 639) rfl rfl rfl) ?_
  refine Eq.trans (op_iconst (pc' := 640) rfl rfl k32_3) ?_
  refine Eq.trans (op_iadd (pc' := 641) rfl rfl) ?_
  refine Eq.trans (sop_ialoadS (pc' := 642) rfl rfl K0 L0) (op_ite ?_)
  exact sop_virtual (pc' := 645) (m := 11) rfl rfl rfl rfl rfl rfl rfl rfl K56
theorem lp_11 (R : Rel h) (hb : hk h < 800000) {L i : Nat} (K0 : hkd h 0 = 901) (L0 : hln h 0 = L) (hi : i + 6 ≤ L) (hL : L ≤ 384) : Lx d (Ev (d + 84) 0 607 [vr (some 0), vr (some 1), vr (some 56), vi (nI i)] [] h) i h := by
  have st : Stq (d + 83) 72 167 [vi (hI h 0 (i + 1)), vi (hI h 0 (i + 2)), vi (hI h 0 (i + 3))] h := s_cardTold R
  obtain ⟨v, h1, h2, e1, e2, R2, G⟩ := st
  have Z := kz_Cl e1
  have K1 : hkd h1 0 = 901 := (Z.2 0 (Nat.zero_le _)).1.trans K0
  have L1 : hln h1 0 = L := (Z.2 0 (Nat.zero_le _)).2.1.trans L0
  have I1 : hI h1 0 = hI h 0 := (Z.2 0 (Nat.zero_le _)).2.2 K0
  have k56 : hkd h1 56 = 11 := (Z.2 56 (by have := R.2.1.1; omega)).1.trans (R.2.1.kd (n := 56) (k := 11) rfl rfl)
  obtain ⟨x, rfl⟩ := rt_i e1 rfl
  refine ⟨h2, ?_, R2, G⟩
  simp (decide := true) (disch := (first | assumption | (simp only [Sh_setI, Sm_setI, Sh_setL, Sm_setL]; assumption) | omega)) only [B_0_607 R.1 K0 L0, n_addO, n_ix, n_cl, e1, V_0_626 k56 K1 L1, I1, e2, B_0_645, B_0_1421, bI_True, bI_False, p_max, p_min, p_abs, Option.bind_some, Option.bind_none, Option.toList_some, Option.toList_none, List.cons_append, List.nil_append, bI_eq0, bI_ne0, bI_ne1, bI_eq1, bI_01, eq_self, true_or, or_true, and_true, true_and, false_and, and_false, false_or, or_false, ite_true, ite_false, if_true, if_false, not_true, not_false_iff, Classical.not_not, nem, ite_not, ne_eq]
set_option maxRecDepth 30000 in
theorem V_0_679 {a3 : Int32} {s0 : Int32} (K56 : hkd h 56 = 11) {L : Nat} (K0 : hkd h 0 = 901) (L0 : hln h 0 = L) : Ev (d + 4) 0 679 [vr (some 0), vr (some 1), vr (some 56), vi a3] [vi s0] h = if am_ix (a3 + 1) L then if am_ix (a3 + 2) L then if am_ix (a3 + 3) L then (Cl (d + 3) 174 [vr (some 56), vl (((Int32.toInt64 (hI h 0 (Int32.toNatClampNeg (a3 + 1)))) <<< (Int32.toInt64 32 &&& 63)) ||| ((Int32.toInt64 (hI h 0 (Int32.toNatClampNeg (a3 + 2)))) &&& 4294967295)), vi (hI h 0 (Int32.toNatClampNeg (a3 + 3)))] h).bind fun x => Ev (d + 4) 0 708 [vr (some 0), vr (some 1), vr (some 56), vi a3] (x.1.toList ++ [vi s0]) x.2 else none else none else none := by
  refine Eq.trans (op_aload_n (pc' := 680) rfl rfl rfl) ?_
  refine Eq.trans (op_aload_n (pc' := 681) rfl rfl rfl) ?_
  refine Eq.trans (op_iload_n (pc' := 682) rfl rfl rfl) ?_
  refine Eq.trans (op_iconst (pc' := 683) rfl rfl k32_1) ?_
  refine Eq.trans (op_iadd (pc' := 684) rfl rfl) ?_
  refine Eq.trans (sop_ialoadS (pc' := 685) rfl rfl K0 L0) (op_ite ?_)
  refine Eq.trans (op_i2l (pc' := 686) rfl rfl) ?_
  refine Eq.trans (op_bipush (pc' := 688) rfl rfl k32_32) ?_
  refine Eq.trans (op_lshl (pc' := 689) rfl rfl) ?_
  refine Eq.trans (op_aload_n (pc' := 690) rfl rfl rfl) ?_
  refine Eq.trans (op_iload_n (pc' := 691) rfl rfl rfl) ?_
  refine Eq.trans (op_iconst (pc' := 692) rfl rfl k32_2) ?_
  refine Eq.trans (op_iadd (pc' := 693) rfl rfl) ?_
  refine Eq.trans (sop_ialoadS (pc' := 694) rfl rfl K0 L0) (op_ite ?_)
  refine Eq.trans (op_i2l (pc' := 695) rfl rfl) ?_
  refine Eq.trans (op_ldc2_w (pc' := 698) rfl rfl k64_4294967295) ?_
  refine Eq.trans (op_land (pc' := 699) rfl rfl) ?_
  refine Eq.trans (op_lor (pc' := 700) rfl rfl) ?_
  refine Eq.trans (op_aload_n (pc' := 701) rfl rfl rfl) ?_
  refine Eq.trans (op_iload_n (pc' := 702) rfl rfl rfl) ?_
  refine Eq.trans (op_iconst (pc' := 703) rfl rfl k32_3) ?_
  refine Eq.trans (op_iadd (pc' := 704) rfl rfl) ?_
  refine Eq.trans (sop_ialoadS (pc' := 705) rfl rfl K0 L0) (op_ite ?_)
  exact sop_virtual (pc' := 708) (m := 11) rfl rfl rfl rfl rfl rfl rfl rfl K56
theorem lp_12 (R : Rel h) (hb : hk h < 800000) {L i : Nat} (K0 : hkd h 0 = 901) (L0 : hln h 0 = L) (hi : i + 6 ≤ L) (hL : L ≤ 384) : Lx d (Ev (d + 84) 0 650 [vr (some 0), vr (some 1), vr (some 56), vi (nI i)] [] h) i h := by
  have st : Stq (d + 83) 79 174 [vl (((Int32.toInt64 (hI h 0 (i + 1))) <<< (Int32.toInt64 32 &&& 63)) ||| ((Int32.toInt64 (hI h 0 (i + 2))) &&& 4294967295)), vi (hI h 0 (i + 3))] h := s_feed R
  obtain ⟨v, h1, h2, e1, e2, R2, G⟩ := st
  have Z := kz_Cl e1
  have K1 : hkd h1 0 = 901 := (Z.2 0 (Nat.zero_le _)).1.trans K0
  have L1 : hln h1 0 = L := (Z.2 0 (Nat.zero_le _)).2.1.trans L0
  have I1 : hI h1 0 = hI h 0 := (Z.2 0 (Nat.zero_le _)).2.2 K0
  have k56 : hkd h1 56 = 11 := (Z.2 56 (by have := R.2.1.1; omega)).1.trans (R.2.1.kd (n := 56) (k := 11) rfl rfl)
  obtain ⟨x, rfl⟩ := rt_i e1 rfl
  refine ⟨h2, ?_, R2, G⟩
  simp (decide := true) (disch := (first | assumption | (simp only [Sh_setI, Sm_setI, Sh_setL, Sm_setL]; assumption) | omega)) only [B_0_650 R.1 K0 L0, n_addO, n_ix, n_cl, e1, V_0_679 k56 K1 L1, I1, e2, B_0_708, B_0_1421, bI_True, bI_False, p_max, p_min, p_abs, Option.bind_some, Option.bind_none, Option.toList_some, Option.toList_none, List.cons_append, List.nil_append, bI_eq0, bI_ne0, bI_ne1, bI_eq1, bI_01, eq_self, true_or, or_true, and_true, true_and, false_and, and_false, false_or, or_false, ite_true, ite_false, if_true, if_false, not_true, not_false_iff, Classical.not_not, nem, ite_not, ne_eq]
set_option maxRecDepth 30000 in
theorem V_0_717 {a3 : Int32} {s0 : Int32} (K56 : hkd h 56 = 11) : Ev (d + 4) 0 717 [vr (some 0), vr (some 1), vr (some 56), vi a3] [vi s0] h = (Cl (d + 3) 175 [vr (some 56)] h).bind fun x => Ev (d + 4) 0 721 [vr (some 0), vr (some 1), vr (some 56), vi a3] (x.1.toList ++ [vi s0]) x.2 := by
  refine Eq.trans (op_aload_n (pc' := 718) rfl rfl rfl) ?_
  exact sop_virtual (pc' := 721) (m := 11) rfl rfl rfl rfl rfl rfl rfl rfl K56
theorem lp_13 (R : Rel h) (hb : hk h < 800000) {L i : Nat} (K0 : hkd h 0 = 901) (L0 : hln h 0 = L) (hi : i + 6 ≤ L) (hL : L ≤ 384) : Lx d (Ev (d + 84) 0 713 [vr (some 0), vr (some 1), vr (some 56), vi (nI i)] [] h) i h := by
  have st : Stq (d + 83) 81 175 [] h := s_text R (by omega)
  obtain ⟨v, h1, h2, e1, e2, R2, G⟩ := st
  have Z := kz_Cl e1
  have k56 : hkd h1 56 = 11 := (Z.2 56 (by have := R.2.1.1; omega)).1.trans (R.2.1.kd (n := 56) (k := 11) rfl rfl)
  obtain ⟨x, rfl⟩ := rt_i e1 rfl
  refine ⟨h2, ?_, R2, G⟩
  simp (decide := true) (disch := (first | assumption | (simp only [Sh_setI, Sm_setI, Sh_setL, Sm_setL]; assumption) | omega)) only [B_0_713 R.1, n_addO, n_ix, n_cl, e1, V_0_717 k56, e2, B_0_721, B_0_1421, bI_True, bI_False, p_max, p_min, p_abs, Option.bind_some, Option.bind_none, Option.toList_some, Option.toList_none, List.cons_append, List.nil_append, bI_eq0, bI_ne0, bI_ne1, bI_eq1, bI_01, eq_self, true_or, or_true, and_true, true_and, false_and, and_false, false_or, or_false, ite_true, ite_false, if_true, if_false, not_true, not_false_iff, Classical.not_not, nem, ite_not, ne_eq]
set_option maxRecDepth 30000 in
theorem V_0_735 {a3 : Int32} {s0 : Int32} (K56 : hkd h 56 = 11) {L : Nat} (K0 : hkd h 0 = 901) (L0 : hln h 0 = L) : Ev (d + 4) 0 735 [vr (some 0), vr (some 1), vr (some 56), vi a3] [vi s0] h = if am_ix (a3 + 1) L then (Cl (d + 3) 186 [vr (some 56), vi (hI h 0 (Int32.toNatClampNeg (a3 + 1)))] h).bind fun x => Ev (d + 4) 0 744 [vr (some 0), vr (some 1), vr (some 56), vi a3] (x.1.toList ++ [vi s0]) x.2 else none := by
  refine Eq.trans (op_aload_n (pc' := 736) rfl rfl rfl) ?_
  refine Eq.trans (op_aload_n (pc' := 737) rfl rfl rfl) ?_
  refine Eq.trans (op_iload_n (pc' := 738) rfl rfl rfl) ?_
  refine Eq.trans (op_iconst (pc' := 739) rfl rfl k32_1) ?_
  refine Eq.trans (op_iadd (pc' := 740) rfl rfl) ?_
  refine Eq.trans (sop_ialoadS (pc' := 741) rfl rfl K0 L0) (op_ite ?_)
  exact sop_virtual (pc' := 744) (m := 11) rfl rfl rfl rfl rfl rfl rfl rfl K56
theorem lp_14 (R : Rel h) (hb : hk h < 800000) {L i : Nat} (K0 : hkd h 0 = 901) (L0 : hln h 0 = L) (hi : i + 6 ≤ L) (hL : L ≤ 384) : Lx d (Ev (d + 84) 0 726 [vr (some 0), vr (some 1), vr (some 56), vi (nI i)] [] h) i h := by
  have st : Stq (d + 83) 83 186 [vi (hI h 0 (i + 1))] h := s_force R
  obtain ⟨v, h1, h2, e1, e2, R2, G⟩ := st
  have Z := kz_Cl e1
  have K1 : hkd h1 0 = 901 := (Z.2 0 (Nat.zero_le _)).1.trans K0
  have L1 : hln h1 0 = L := (Z.2 0 (Nat.zero_le _)).2.1.trans L0
  have I1 : hI h1 0 = hI h 0 := (Z.2 0 (Nat.zero_le _)).2.2 K0
  have k56 : hkd h1 56 = 11 := (Z.2 56 (by have := R.2.1.1; omega)).1.trans (R.2.1.kd (n := 56) (k := 11) rfl rfl)
  obtain ⟨x, rfl⟩ := rt_i e1 rfl
  refine ⟨h2, ?_, R2, G⟩
  simp (decide := true) (disch := (first | assumption | (simp only [Sh_setI, Sm_setI, Sh_setL, Sm_setL]; assumption) | omega)) only [B_0_726 R.1 K0 L0, n_addO, n_ix, n_cl, e1, V_0_735 k56 K1 L1, I1, e2, B_0_744, B_0_1421, bI_True, bI_False, p_max, p_min, p_abs, Option.bind_some, Option.bind_none, Option.toList_some, Option.toList_none, List.cons_append, List.nil_append, bI_eq0, bI_ne0, bI_ne1, bI_eq1, bI_01, eq_self, true_or, or_true, and_true, true_and, false_and, and_false, false_or, or_false, ite_true, ite_false, if_true, if_false, not_true, not_false_iff, Classical.not_not, nem, ite_not, ne_eq]
set_option maxRecDepth 30000 in
theorem V_0_768 {a3 : Int32} {s0 : Int64} (K56 : hkd h 56 = 11) {L : Nat} (K0 : hkd h 0 = 901) (L0 : hln h 0 = L) : Ev (d + 4) 0 768 [vr (some 0), vr (some 1), vr (some 56), vi a3] [vl s0] h = if am_ix (a3 + 1) L then if am_ix (a3 + 2) L then if am_ix (a3 + 3) L then (Cl (d + 3) 187 [vr (some 56), vi (hI h 0 (Int32.toNatClampNeg (a3 + 1))), vi (hI h 0 (Int32.toNatClampNeg (a3 + 2))), vi (hI h 0 (Int32.toNatClampNeg (a3 + 3)))] h).bind fun x => Ev (d + 4) 0 787 [vr (some 0), vr (some 1), vr (some 56), vi a3] (x.1.toList ++ [vl s0]) x.2 else none else none else none := by
  refine Eq.trans (op_aload_n (pc' := 769) rfl rfl rfl) ?_
  refine Eq.trans (op_aload_n (pc' := 770) rfl rfl rfl) ?_
  refine Eq.trans (op_iload_n (pc' := 771) rfl rfl rfl) ?_
  refine Eq.trans (op_iconst (pc' := 772) rfl rfl k32_1) ?_
  refine Eq.trans (op_iadd (pc' := 773) rfl rfl) ?_
  refine Eq.trans (sop_ialoadS (pc' := 774) rfl rfl K0 L0) (op_ite ?_)
  refine Eq.trans (op_aload_n (pc' := 775) rfl rfl rfl) ?_
  refine Eq.trans (op_iload_n (pc' := 776) rfl rfl rfl) ?_
  refine Eq.trans (op_iconst (pc' := 777) rfl rfl k32_2) ?_
  refine Eq.trans (op_iadd (pc' := 778) rfl rfl) ?_
  refine Eq.trans (sop_ialoadS (pc' := 779) rfl rfl K0 L0) (op_ite ?_)
  refine Eq.trans (op_aload_n (pc' := 780) rfl rfl rfl) ?_
  refine Eq.trans (op_iload_n (pc' := 781) rfl rfl rfl) ?_
  refine Eq.trans (op_iconst (pc' := 782) rfl rfl k32_3) ?_
  refine Eq.trans (op_iadd (pc' := 783) rfl rfl) ?_
  refine Eq.trans (sop_ialoadS (pc' := 784) rfl rfl K0 L0) (op_ite ?_)
  exact sop_virtual (pc' := 787) (m := 11) rfl rfl rfl rfl rfl rfl rfl rfl K56
theorem lp_15 (R : Rel h) (hb : hk h < 800000) {L i : Nat} (K0 : hkd h 0 = 901) (L0 : hln h 0 = L) (hi : i + 6 ≤ L) (hL : L ≤ 384) : Lx d (Ev (d + 84) 0 749 [vr (some 0), vr (some 1), vr (some 56), vi (nI i)] [] h) i h := by
  have st : Stq (d + 83) 84 187 [vi (hI h 0 (i + 1)), vi (hI h 0 (i + 2)), vi (hI h 0 (i + 3))] h := s_law R (by omega)
  obtain ⟨v, h1, h2, e1, e2, R2, G⟩ := st
  have Z := kz_Cl e1
  have K1 : hkd h1 0 = 901 := (Z.2 0 (Nat.zero_le _)).1.trans K0
  have L1 : hln h1 0 = L := (Z.2 0 (Nat.zero_le _)).2.1.trans L0
  have I1 : hI h1 0 = hI h 0 := (Z.2 0 (Nat.zero_le _)).2.2 K0
  have k56 : hkd h1 56 = 11 := (Z.2 56 (by have := R.2.1.1; omega)).1.trans (R.2.1.kd (n := 56) (k := 11) rfl rfl)
  obtain ⟨x, rfl⟩ := rt_l e1 rfl
  refine ⟨h2, ?_, R2, G⟩
  simp (decide := true) (disch := (first | assumption | (simp only [Sh_setI, Sm_setI, Sh_setL, Sm_setL]; assumption) | omega)) only [B_0_749 R.1 K0 L0, n_addO, n_ix, n_cl, e1, V_0_768 k56 K1 L1, I1, e2, B_0_787, lg_eq0, B_0_1421, bI_True, bI_False, p_max, p_min, p_abs, Option.bind_some, Option.bind_none, Option.toList_some, Option.toList_none, List.cons_append, List.nil_append, bI_eq0, bI_ne0, bI_ne1, bI_eq1, bI_01, eq_self, true_or, or_true, and_true, true_and, false_and, and_false, false_or, or_false, ite_true, ite_false, if_true, if_false, not_true, not_false_iff, Classical.not_not, nem, ite_not, ne_eq]
set_option maxRecDepth 30000 in
theorem V_0_812 {a3 : Int32} {s0 : Int64} (K56 : hkd h 56 = 11) {L : Nat} (K0 : hkd h 0 = 901) (L0 : hln h 0 = L) : Ev (d + 4) 0 812 [vr (some 0), vr (some 1), vr (some 56), vi a3] [vl s0] h = if am_ix (a3 + 1) L then if am_ix (a3 + 2) L then if am_ix (a3 + 3) L then (Cl (d + 3) 192 [vr (some 56), vi (hI h 0 (Int32.toNatClampNeg (a3 + 1))), vi (hI h 0 (Int32.toNatClampNeg (a3 + 2))), vi (hI h 0 (Int32.toNatClampNeg (a3 + 3)))] h).bind fun x => Ev (d + 4) 0 831 [vr (some 0), vr (some 1), vr (some 56), vi a3] (x.1.toList ++ [vl s0]) x.2 else none else none else none := by
  refine Eq.trans (op_aload_n (pc' := 813) rfl rfl rfl) ?_
  refine Eq.trans (op_aload_n (pc' := 814) rfl rfl rfl) ?_
  refine Eq.trans (op_iload_n (pc' := 815) rfl rfl rfl) ?_
  refine Eq.trans (op_iconst (pc' := 816) rfl rfl k32_1) ?_
  refine Eq.trans (op_iadd (pc' := 817) rfl rfl) ?_
  refine Eq.trans (sop_ialoadS (pc' := 818) rfl rfl K0 L0) (op_ite ?_)
  refine Eq.trans (op_aload_n (pc' := 819) rfl rfl rfl) ?_
  refine Eq.trans (op_iload_n (pc' := 820) rfl rfl rfl) ?_
  refine Eq.trans (op_iconst (pc' := 821) rfl rfl k32_2) ?_
  refine Eq.trans (op_iadd (pc' := 822) rfl rfl) ?_
  refine Eq.trans (sop_ialoadS (pc' := 823) rfl rfl K0 L0) (op_ite ?_)
  refine Eq.trans (op_aload_n (pc' := 824) rfl rfl rfl) ?_
  refine Eq.trans (op_iload_n (pc' := 825) rfl rfl rfl) ?_
  refine Eq.trans (op_iconst (pc' := 826) rfl rfl k32_3) ?_
  refine Eq.trans (op_iadd (pc' := 827) rfl rfl) ?_
  refine Eq.trans (sop_ialoadS (pc' := 828) rfl rfl K0 L0) (op_ite ?_)
  exact sop_virtual (pc' := 831) (m := 11) rfl rfl rfl rfl rfl rfl rfl rfl K56
theorem lp_16 (R : Rel h) (hb : hk h < 800000) {L i : Nat} (K0 : hkd h 0 = 901) (L0 : hln h 0 = L) (hi : i + 6 ≤ L) (hL : L ≤ 384) : Lx d (Ev (d + 84) 0 793 [vr (some 0), vr (some 1), vr (some 56), vi (nI i)] [] h) i h := by
  have st : Stq (d + 83) 92 192 [vi (hI h 0 (i + 1)), vi (hI h 0 (i + 2)), vi (hI h 0 (i + 3))] h := s_place R (by omega)
  obtain ⟨v, h1, h2, e1, e2, R2, G⟩ := st
  have Z := kz_Cl e1
  have K1 : hkd h1 0 = 901 := (Z.2 0 (Nat.zero_le _)).1.trans K0
  have L1 : hln h1 0 = L := (Z.2 0 (Nat.zero_le _)).2.1.trans L0
  have I1 : hI h1 0 = hI h 0 := (Z.2 0 (Nat.zero_le _)).2.2 K0
  have k56 : hkd h1 56 = 11 := (Z.2 56 (by have := R.2.1.1; omega)).1.trans (R.2.1.kd (n := 56) (k := 11) rfl rfl)
  obtain ⟨x, rfl⟩ := rt_l e1 rfl
  refine ⟨h2, ?_, R2, G⟩
  simp (decide := true) (disch := (first | assumption | (simp only [Sh_setI, Sm_setI, Sh_setL, Sm_setL]; assumption) | omega)) only [B_0_793 R.1 K0 L0, n_addO, n_ix, n_cl, e1, V_0_812 k56 K1 L1, I1, e2, B_0_831, lg_eq0, B_0_1421, bI_True, bI_False, p_max, p_min, p_abs, Option.bind_some, Option.bind_none, Option.toList_some, Option.toList_none, List.cons_append, List.nil_append, bI_eq0, bI_ne0, bI_ne1, bI_eq1, bI_01, eq_self, true_or, or_true, and_true, true_and, false_and, and_false, false_or, or_false, ite_true, ite_false, if_true, if_false, not_true, not_false_iff, Classical.not_not, nem, ite_not, ne_eq]
set_option maxRecDepth 30000 in
theorem V_0_851 {a3 : Int32} {s0 : Int64} (K56 : hkd h 56 = 11) {L : Nat} (K0 : hkd h 0 = 901) (L0 : hln h 0 = L) : Ev (d + 4) 0 851 [vr (some 0), vr (some 1), vr (some 56), vi a3] [vl s0] h = if am_ix (a3 + 1) L then if am_ix (a3 + 2) L then (Cl (d + 3) 196 [vr (some 56), vi (hI h 0 (Int32.toNatClampNeg (a3 + 1))), vi (hI h 0 (Int32.toNatClampNeg (a3 + 2)))] h).bind fun x => Ev (d + 4) 0 865 [vr (some 0), vr (some 1), vr (some 56), vi a3] (x.1.toList ++ [vl s0]) x.2 else none else none := by
  refine Eq.trans (op_aload_n (pc' := 852) rfl rfl rfl) ?_
  refine Eq.trans (op_aload_n (pc' := 853) rfl rfl rfl) ?_
  refine Eq.trans (op_iload_n (pc' := 854) rfl rfl rfl) ?_
  refine Eq.trans (op_iconst (pc' := 855) rfl rfl k32_1) ?_
  refine Eq.trans (op_iadd (pc' := 856) rfl rfl) ?_
  refine Eq.trans (sop_ialoadS (pc' := 857) rfl rfl K0 L0) (op_ite ?_)
  refine Eq.trans (op_aload_n (pc' := 858) rfl rfl rfl) ?_
  refine Eq.trans (op_iload_n (pc' := 859) rfl rfl rfl) ?_
  refine Eq.trans (op_iconst (pc' := 860) rfl rfl k32_2) ?_
  refine Eq.trans (op_iadd (pc' := 861) rfl rfl) ?_
  refine Eq.trans (sop_ialoadS (pc' := 862) rfl rfl K0 L0) (op_ite ?_)
  exact sop_virtual (pc' := 865) (m := 11) rfl rfl rfl rfl rfl rfl rfl rfl K56
theorem lp_17 (R : Rel h) (hb : hk h < 800000) {L i : Nat} (K0 : hkd h 0 = 901) (L0 : hln h 0 = L) (hi : i + 6 ≤ L) (hL : L ≤ 384) : Lx d (Ev (d + 84) 0 837 [vr (some 0), vr (some 1), vr (some 56), vi (nI i)] [] h) i h := by
  have st : Stq (d + 83) 102 196 [vi (hI h 0 (i + 1)), vi (hI h 0 (i + 2))] h := s_settle R (by omega)
  obtain ⟨v, h1, h2, e1, e2, R2, G⟩ := st
  have Z := kz_Cl e1
  have K1 : hkd h1 0 = 901 := (Z.2 0 (Nat.zero_le _)).1.trans K0
  have L1 : hln h1 0 = L := (Z.2 0 (Nat.zero_le _)).2.1.trans L0
  have I1 : hI h1 0 = hI h 0 := (Z.2 0 (Nat.zero_le _)).2.2 K0
  have k56 : hkd h1 56 = 11 := (Z.2 56 (by have := R.2.1.1; omega)).1.trans (R.2.1.kd (n := 56) (k := 11) rfl rfl)
  obtain ⟨x, rfl⟩ := rt_l e1 rfl
  refine ⟨h2, ?_, R2, G⟩
  simp (decide := true) (disch := (first | assumption | (simp only [Sh_setI, Sm_setI, Sh_setL, Sm_setL]; assumption) | omega)) only [B_0_837 R.1 K0 L0, n_addO, n_ix, n_cl, e1, V_0_851 k56 K1 L1, I1, e2, B_0_865, lg_eq0, B_0_1421, bI_True, bI_False, p_max, p_min, p_abs, Option.bind_some, Option.bind_none, Option.toList_some, Option.toList_none, List.cons_append, List.nil_append, bI_eq0, bI_ne0, bI_ne1, bI_eq1, bI_01, eq_self, true_or, or_true, and_true, true_and, false_and, and_false, false_or, or_false, ite_true, ite_false, if_true, if_false, not_true, not_false_iff, Classical.not_not, nem, ite_not, ne_eq]
set_option maxRecDepth 30000 in
theorem V_0_895 {a3 : Int32} {s0 : Int64} (K56 : hkd h 56 = 11) {L : Nat} (K0 : hkd h 0 = 901) (L0 : hln h 0 = L) : Ev (d + 4) 0 895 [vr (some 0), vr (some 1), vr (some 56), vi a3] [vl s0] h = if am_ix (a3 + 1) L then if am_ix (a3 + 2) L then if am_ix (a3 + 3) L then if am_ix (a3 + 4) L then (Cl (d + 3) 197 [vr (some 56), vi (hI h 0 (Int32.toNatClampNeg (a3 + 1))), vi (hI h 0 (Int32.toNatClampNeg (a3 + 2))), vi (hI h 0 (Int32.toNatClampNeg (a3 + 3))), vi (hI h 0 (Int32.toNatClampNeg (a3 + 4)))] h).bind fun x => Ev (d + 4) 0 919 [vr (some 0), vr (some 1), vr (some 56), vi a3] (x.1.toList ++ [vl s0]) x.2 else none else none else none else none := by
  refine Eq.trans (op_aload_n (pc' := 896) rfl rfl rfl) ?_
  refine Eq.trans (op_aload_n (pc' := 897) rfl rfl rfl) ?_
  refine Eq.trans (op_iload_n (pc' := 898) rfl rfl rfl) ?_
  refine Eq.trans (op_iconst (pc' := 899) rfl rfl k32_1) ?_
  refine Eq.trans (op_iadd (pc' := 900) rfl rfl) ?_
  refine Eq.trans (sop_ialoadS (pc' := 901) rfl rfl K0 L0) (op_ite ?_)
  refine Eq.trans (op_aload_n (pc' := 902) rfl rfl rfl) ?_
  refine Eq.trans (op_iload_n (pc' := 903) rfl rfl rfl) ?_
  refine Eq.trans (op_iconst (pc' := 904) rfl rfl k32_2) ?_
  refine Eq.trans (op_iadd (pc' := 905) rfl rfl) ?_
  refine Eq.trans (sop_ialoadS (pc' := 906) rfl rfl K0 L0) (op_ite ?_)
  refine Eq.trans (op_aload_n (pc' := 907) rfl rfl rfl) ?_
  refine Eq.trans (op_iload_n (pc' := 908) rfl rfl rfl) ?_
  refine Eq.trans (op_iconst (pc' := 909) rfl rfl k32_3) ?_
  refine Eq.trans (op_iadd (pc' := 910) rfl rfl) ?_
  refine Eq.trans (sop_ialoadS (pc' := 911) rfl rfl K0 L0) (op_ite ?_)
  refine Eq.trans (op_aload_n (pc' := 912) rfl rfl rfl) ?_
  refine Eq.trans (op_iload_n (pc' := 913) rfl rfl rfl) ?_
  refine Eq.trans (op_iconst (pc' := 914) rfl rfl k32_4) ?_
  refine Eq.trans (op_iadd (pc' := 915) rfl rfl) ?_
  refine Eq.trans (sop_ialoadS (pc' := 916) rfl rfl K0 L0) (op_ite ?_)
  exact sop_virtual (pc' := 919) (m := 11) rfl rfl rfl rfl rfl rfl rfl rfl K56
theorem lp_18 (R : Rel h) (hb : hk h < 800000) {L i : Nat} (K0 : hkd h 0 = 901) (L0 : hln h 0 = L) (hi : i + 6 ≤ L) (hL : L ≤ 384) : Lx d (Ev (d + 84) 0 871 [vr (some 0), vr (some 1), vr (some 56), vi (nI i)] [] h) i h := by
  have st : Stq (d + 83) 103 197 [vi (hI h 0 (i + 1)), vi (hI h 0 (i + 2)), vi (hI h 0 (i + 3)), vi (hI h 0 (i + 4))] h := s_table R (by omega)
  obtain ⟨v, h1, h2, e1, e2, R2, G⟩ := st
  have Z := kz_Cl e1
  have K1 : hkd h1 0 = 901 := (Z.2 0 (Nat.zero_le _)).1.trans K0
  have L1 : hln h1 0 = L := (Z.2 0 (Nat.zero_le _)).2.1.trans L0
  have I1 : hI h1 0 = hI h 0 := (Z.2 0 (Nat.zero_le _)).2.2 K0
  have k56 : hkd h1 56 = 11 := (Z.2 56 (by have := R.2.1.1; omega)).1.trans (R.2.1.kd (n := 56) (k := 11) rfl rfl)
  obtain ⟨x, rfl⟩ := rt_l e1 rfl
  refine ⟨h2, ?_, R2, G⟩
  simp (decide := true) (disch := (first | assumption | (simp only [Sh_setI, Sm_setI, Sh_setL, Sm_setL]; assumption) | omega)) only [B_0_871 R.1 K0 L0, n_addO, n_ix, n_cl, e1, V_0_895 k56 K1 L1, I1, e2, B_0_919, lg_eq0, B_0_1421, bI_True, bI_False, p_max, p_min, p_abs, Option.bind_some, Option.bind_none, Option.toList_some, Option.toList_none, List.cons_append, List.nil_append, bI_eq0, bI_ne0, bI_ne1, bI_eq1, bI_01, eq_self, true_or, or_true, and_true, true_and, false_and, and_false, false_or, or_false, ite_true, ite_false, if_true, if_false, not_true, not_false_iff, Classical.not_not, nem, ite_not, ne_eq]
set_option maxRecDepth 30000 in
theorem V_0_939 {a3 : Int32} {s0 : Int64} (K56 : hkd h 56 = 11) {L : Nat} (K0 : hkd h 0 = 901) (L0 : hln h 0 = L) : Ev (d + 4) 0 939 [vr (some 0), vr (some 1), vr (some 56), vi a3] [vl s0] h = if am_ix (a3 + 1) L then if am_ix (a3 + 2) L then (Cl (d + 3) 200 [vr (some 56), vi (hI h 0 (Int32.toNatClampNeg (a3 + 1))), vi (hI h 0 (Int32.toNatClampNeg (a3 + 2)))] h).bind fun x => Ev (d + 4) 0 953 [vr (some 0), vr (some 1), vr (some 56), vi a3] (x.1.toList ++ [vl s0]) x.2 else none else none := by
  refine Eq.trans (op_aload_n (pc' := 940) rfl rfl rfl) ?_
  refine Eq.trans (op_aload_n (pc' := 941) rfl rfl rfl) ?_
  refine Eq.trans (op_iload_n (pc' := 942) rfl rfl rfl) ?_
  refine Eq.trans (op_iconst (pc' := 943) rfl rfl k32_1) ?_
  refine Eq.trans (op_iadd (pc' := 944) rfl rfl) ?_
  refine Eq.trans (sop_ialoadS (pc' := 945) rfl rfl K0 L0) (op_ite ?_)
  refine Eq.trans (op_aload_n (pc' := 946) rfl rfl rfl) ?_
  refine Eq.trans (op_iload_n (pc' := 947) rfl rfl rfl) ?_
  refine Eq.trans (op_iconst (pc' := 948) rfl rfl k32_2) ?_
  refine Eq.trans (op_iadd (pc' := 949) rfl rfl) ?_
  refine Eq.trans (sop_ialoadS (pc' := 950) rfl rfl K0 L0) (op_ite ?_)
  exact sop_virtual (pc' := 953) (m := 11) rfl rfl rfl rfl rfl rfl rfl rfl K56
theorem lp_19 (R : Rel h) (hb : hk h < 800000) {L i : Nat} (K0 : hkd h 0 = 901) (L0 : hln h 0 = L) (hi : i + 6 ≤ L) (hL : L ≤ 384) : Lx d (Ev (d + 84) 0 925 [vr (some 0), vr (some 1), vr (some 56), vi (nI i)] [] h) i h := by
  have st : Stq (d + 83) 106 200 [vi (hI h 0 (i + 1)), vi (hI h 0 (i + 2))] h := s_refit R
  obtain ⟨v, h1, h2, e1, e2, R2, G⟩ := st
  have Z := kz_Cl e1
  have K1 : hkd h1 0 = 901 := (Z.2 0 (Nat.zero_le _)).1.trans K0
  have L1 : hln h1 0 = L := (Z.2 0 (Nat.zero_le _)).2.1.trans L0
  have I1 : hI h1 0 = hI h 0 := (Z.2 0 (Nat.zero_le _)).2.2 K0
  have k56 : hkd h1 56 = 11 := (Z.2 56 (by have := R.2.1.1; omega)).1.trans (R.2.1.kd (n := 56) (k := 11) rfl rfl)
  obtain ⟨x, rfl⟩ := rt_l e1 rfl
  refine ⟨h2, ?_, R2, G⟩
  simp (decide := true) (disch := (first | assumption | (simp only [Sh_setI, Sm_setI, Sh_setL, Sm_setL]; assumption) | omega)) only [B_0_925 R.1 K0 L0, n_addO, n_ix, n_cl, e1, V_0_939 k56 K1 L1, I1, e2, B_0_953, lg_eq0, B_0_1421, bI_True, bI_False, p_max, p_min, p_abs, Option.bind_some, Option.bind_none, Option.toList_some, Option.toList_none, List.cons_append, List.nil_append, bI_eq0, bI_ne0, bI_ne1, bI_eq1, bI_01, eq_self, true_or, or_true, and_true, true_and, false_and, and_false, false_or, or_false, ite_true, ite_false, if_true, if_false, not_true, not_false_iff, Classical.not_not, nem, ite_not, ne_eq]
set_option maxRecDepth 30000 in
theorem V_0_968 {a3 : Int32} {s0 : Int32} (K56 : hkd h 56 = 11) {L : Nat} (K0 : hkd h 0 = 901) (L0 : hln h 0 = L) : Ev (d + 4) 0 968 [vr (some 0), vr (some 1), vr (some 56), vi a3] [vi s0] h = if am_ix (a3 + 1) L then (Cl (d + 3) 202 [vr (some 56), vi (hI h 0 (Int32.toNatClampNeg (a3 + 1)))] h).bind fun x => Ev (d + 4) 0 977 [vr (some 0), vr (some 1), vr (some 56), vi a3] (x.1.toList ++ [vi s0]) x.2 else none := by
  refine Eq.trans (op_aload_n (pc' := 969) rfl rfl rfl) ?_
  refine Eq.trans (op_aload_n (pc' := 970) rfl rfl rfl) ?_
  refine Eq.trans (op_iload_n (pc' := 971) rfl rfl rfl) ?_
  refine Eq.trans (op_iconst (pc' := 972) rfl rfl k32_1) ?_
  refine Eq.trans (op_iadd (pc' := 973) rfl rfl) ?_
  refine Eq.trans (sop_ialoadS (pc' := 974) rfl rfl K0 L0) (op_ite ?_)
  exact sop_virtual (pc' := 977) (m := 11) rfl rfl rfl rfl rfl rfl rfl rfl K56
theorem lp_20 (R : Rel h) (hb : hk h < 800000) {L i : Nat} (K0 : hkd h 0 = 901) (L0 : hln h 0 = L) (hi : i + 6 ≤ L) (hL : L ≤ 384) : Lx d (Ev (d + 84) 0 959 [vr (some 0), vr (some 1), vr (some 56), vi (nI i)] [] h) i h := by
  have st : Stq (d + 83) 110 202 [vi (hI h 0 (i + 1))] h := s_refitTold R
  obtain ⟨v, h1, h2, e1, e2, R2, G⟩ := st
  have Z := kz_Cl e1
  have K1 : hkd h1 0 = 901 := (Z.2 0 (Nat.zero_le _)).1.trans K0
  have L1 : hln h1 0 = L := (Z.2 0 (Nat.zero_le _)).2.1.trans L0
  have I1 : hI h1 0 = hI h 0 := (Z.2 0 (Nat.zero_le _)).2.2 K0
  have k56 : hkd h1 56 = 11 := (Z.2 56 (by have := R.2.1.1; omega)).1.trans (R.2.1.kd (n := 56) (k := 11) rfl rfl)
  obtain ⟨x, rfl⟩ := rt_i e1 rfl
  refine ⟨h2, ?_, R2, G⟩
  simp (decide := true) (disch := (first | assumption | (simp only [Sh_setI, Sm_setI, Sh_setL, Sm_setL]; assumption) | omega)) only [B_0_959 R.1 K0 L0, n_addO, n_ix, n_cl, e1, V_0_968 k56 K1 L1, I1, e2, B_0_977, B_0_1421, bI_True, bI_False, p_max, p_min, p_abs, Option.bind_some, Option.bind_none, Option.toList_some, Option.toList_none, List.cons_append, List.nil_append, bI_eq0, bI_ne0, bI_ne1, bI_eq1, bI_01, eq_self, true_or, or_true, and_true, true_and, false_and, and_false, false_or, or_false, ite_true, ite_false, if_true, if_false, not_true, not_false_iff, Classical.not_not, nem, ite_not, ne_eq]
set_option maxRecDepth 30000 in
theorem V_0_1001 {a3 : Int32} {s0 : Int32} (K56 : hkd h 56 = 11) {L : Nat} (K0 : hkd h 0 = 901) (L0 : hln h 0 = L) : Ev (d + 4) 0 1001 [vr (some 0), vr (some 1), vr (some 56), vi a3] [vi s0] h = if am_ix (a3 + 1) L then if am_ix (a3 + 2) L then if am_ix (a3 + 3) L then (Cl (d + 3) 203 [vr (some 56), vi (hI h 0 (Int32.toNatClampNeg (a3 + 1))), vi (hI h 0 (Int32.toNatClampNeg (a3 + 2))), vi (hI h 0 (Int32.toNatClampNeg (a3 + 3)))] h).bind fun x => Ev (d + 4) 0 1020 [vr (some 0), vr (some 1), vr (some 56), vi a3] (x.1.toList ++ [vi s0]) x.2 else none else none else none := by
  refine Eq.trans (op_aload_n (pc' := 1002) rfl rfl rfl) ?_
  refine Eq.trans (op_aload_n (pc' := 1003) rfl rfl rfl) ?_
  refine Eq.trans (op_iload_n (pc' := 1004) rfl rfl rfl) ?_
  refine Eq.trans (op_iconst (pc' := 1005) rfl rfl k32_1) ?_
  refine Eq.trans (op_iadd (pc' := 1006) rfl rfl) ?_
  refine Eq.trans (sop_ialoadS (pc' := 1007) rfl rfl K0 L0) (op_ite ?_)
  refine Eq.trans (op_aload_n (pc' := 1008) rfl rfl rfl) ?_
  refine Eq.trans (op_iload_n (pc' := 1009) rfl rfl rfl) ?_
  refine Eq.trans (op_iconst (pc' := 1010) rfl rfl k32_2) ?_
  refine Eq.trans (op_iadd (pc' := 1011) rfl rfl) ?_
  refine Eq.trans (sop_ialoadS (pc' := 1012) rfl rfl K0 L0) (op_ite ?_)
  refine Eq.trans (op_aload_n (pc' := 1013) rfl rfl rfl) ?_
  refine Eq.trans (op_iload_n (pc' := 1014) rfl rfl rfl) ?_
  refine Eq.trans (op_iconst (pc' := 1015) rfl rfl k32_3) ?_
  refine Eq.trans (op_iadd (pc' := 1016) rfl rfl) ?_
  refine Eq.trans (sop_ialoadS (pc' := 1017) rfl rfl K0 L0) (op_ite ?_)
  exact sop_virtual (pc' := 1020) (m := 11) rfl rfl rfl rfl rfl rfl rfl rfl K56
theorem lp_21 (R : Rel h) (hb : hk h < 800000) {L i : Nat} (K0 : hkd h 0 = 901) (L0 : hln h 0 = L) (hi : i + 6 ≤ L) (hL : L ≤ 384) : Lx d (Ev (d + 84) 0 982 [vr (some 0), vr (some 1), vr (some 56), vi (nI i)] [] h) i h := by
  have st : Stq (d + 83) 111 203 [vi (hI h 0 (i + 1)), vi (hI h 0 (i + 2)), vi (hI h 0 (i + 3))] h := s_called R
  obtain ⟨v, h1, h2, e1, e2, R2, G⟩ := st
  have Z := kz_Cl e1
  have K1 : hkd h1 0 = 901 := (Z.2 0 (Nat.zero_le _)).1.trans K0
  have L1 : hln h1 0 = L := (Z.2 0 (Nat.zero_le _)).2.1.trans L0
  have I1 : hI h1 0 = hI h 0 := (Z.2 0 (Nat.zero_le _)).2.2 K0
  have k56 : hkd h1 56 = 11 := (Z.2 56 (by have := R.2.1.1; omega)).1.trans (R.2.1.kd (n := 56) (k := 11) rfl rfl)
  obtain ⟨x, rfl⟩ := rt_i e1 rfl
  refine ⟨h2, ?_, R2, G⟩
  simp (decide := true) (disch := (first | assumption | (simp only [Sh_setI, Sm_setI, Sh_setL, Sm_setL]; assumption) | omega)) only [B_0_982 R.1 K0 L0, n_addO, n_ix, n_cl, e1, V_0_1001 k56 K1 L1, I1, e2, B_0_1020, B_0_1421, bI_True, bI_False, p_max, p_min, p_abs, Option.bind_some, Option.bind_none, Option.toList_some, Option.toList_none, List.cons_append, List.nil_append, bI_eq0, bI_ne0, bI_ne1, bI_eq1, bI_01, eq_self, true_or, or_true, and_true, true_and, false_and, and_false, false_or, or_false, ite_true, ite_false, if_true, if_false, not_true, not_false_iff, Classical.not_not, nem, ite_not, ne_eq]
set_option maxRecDepth 30000 in
theorem V_0_1034 {a3 : Int32} {s0 : Int32} (K56 : hkd h 56 = 11) {L : Nat} (K0 : hkd h 0 = 901) (L0 : hln h 0 = L) : Ev (d + 4) 0 1034 [vr (some 0), vr (some 1), vr (some 56), vi a3] [vi s0] h = if am_ix (a3 + 1) L then (Cl (d + 3) 204 [vr (some 56), vi (hI h 0 (Int32.toNatClampNeg (a3 + 1)))] h).bind fun x => Ev (d + 4) 0 1043 [vr (some 0), vr (some 1), vr (some 56), vi a3] (x.1.toList ++ [vi s0]) x.2 else none := by
  refine Eq.trans (op_aload_n (pc' := 1035) rfl rfl rfl) ?_
  refine Eq.trans (op_aload_n (pc' := 1036) rfl rfl rfl) ?_
  refine Eq.trans (op_iload_n (pc' := 1037) rfl rfl rfl) ?_
  refine Eq.trans (op_iconst (pc' := 1038) rfl rfl k32_1) ?_
  refine Eq.trans (op_iadd (pc' := 1039) rfl rfl) ?_
  refine Eq.trans (sop_ialoadS (pc' := 1040) rfl rfl K0 L0) (op_ite ?_)
  exact sop_virtual (pc' := 1043) (m := 11) rfl rfl rfl rfl rfl rfl rfl rfl K56
theorem lp_22 (R : Rel h) (hb : hk h < 800000) {L i : Nat} (K0 : hkd h 0 = 901) (L0 : hln h 0 = L) (hi : i + 6 ≤ L) (hL : L ≤ 384) : Lx d (Ev (d + 84) 0 1025 [vr (some 0), vr (some 1), vr (some 56), vi (nI i)] [] h) i h := by
  have st : Stq (d + 83) 112 204 [vi (hI h 0 (i + 1))] h := s_strange R
  obtain ⟨v, h1, h2, e1, e2, R2, G⟩ := st
  have Z := kz_Cl e1
  have K1 : hkd h1 0 = 901 := (Z.2 0 (Nat.zero_le _)).1.trans K0
  have L1 : hln h1 0 = L := (Z.2 0 (Nat.zero_le _)).2.1.trans L0
  have I1 : hI h1 0 = hI h 0 := (Z.2 0 (Nat.zero_le _)).2.2 K0
  have k56 : hkd h1 56 = 11 := (Z.2 56 (by have := R.2.1.1; omega)).1.trans (R.2.1.kd (n := 56) (k := 11) rfl rfl)
  obtain ⟨x, rfl⟩ := rt_i e1 rfl
  refine ⟨h2, ?_, R2, G⟩
  simp (decide := true) (disch := (first | assumption | (simp only [Sh_setI, Sm_setI, Sh_setL, Sm_setL]; assumption) | omega)) only [B_0_1025 R.1 K0 L0, n_addO, n_ix, n_cl, e1, V_0_1034 k56 K1 L1, I1, e2, B_0_1043, B_0_1421, bI_True, bI_False, p_max, p_min, p_abs, Option.bind_some, Option.bind_none, Option.toList_some, Option.toList_none, List.cons_append, List.nil_append, bI_eq0, bI_ne0, bI_ne1, bI_eq1, bI_01, eq_self, true_or, or_true, and_true, true_and, false_and, and_false, false_or, or_false, ite_true, ite_false, if_true, if_false, not_true, not_false_iff, Classical.not_not, nem, ite_not, ne_eq]
set_option maxRecDepth 30000 in
theorem V_0_1067 {a3 : Int32} {s0 : Int32} (K56 : hkd h 56 = 11) {L : Nat} (K0 : hkd h 0 = 901) (L0 : hln h 0 = L) : Ev (d + 4) 0 1067 [vr (some 0), vr (some 1), vr (some 56), vi a3] [vi s0] h = if am_ix (a3 + 1) L then if am_ix (a3 + 2) L then if am_ix (a3 + 3) L then (Cl (d + 3) 205 [vr (some 56), vi (hI h 0 (Int32.toNatClampNeg (a3 + 1))), vi (hI h 0 (Int32.toNatClampNeg (a3 + 2))), vi (hI h 0 (Int32.toNatClampNeg (a3 + 3)))] h).bind fun x => Ev (d + 4) 0 1086 [vr (some 0), vr (some 1), vr (some 56), vi a3] (x.1.toList ++ [vi s0]) x.2 else none else none else none := by
  refine Eq.trans (op_aload_n (pc' := 1068) rfl rfl rfl) ?_
  refine Eq.trans (op_aload_n (pc' := 1069) rfl rfl rfl) ?_
  refine Eq.trans (op_iload_n (pc' := 1070) rfl rfl rfl) ?_
  refine Eq.trans (op_iconst (pc' := 1071) rfl rfl k32_1) ?_
  refine Eq.trans (op_iadd (pc' := 1072) rfl rfl) ?_
  refine Eq.trans (sop_ialoadS (pc' := 1073) rfl rfl K0 L0) (op_ite ?_)
  refine Eq.trans (op_aload_n (pc' := 1074) rfl rfl rfl) ?_
  refine Eq.trans (op_iload_n (pc' := 1075) rfl rfl rfl) ?_
  refine Eq.trans (op_iconst (pc' := 1076) rfl rfl k32_2) ?_
  refine Eq.trans (op_iadd (pc' := 1077) rfl rfl) ?_
  refine Eq.trans (sop_ialoadS (pc' := 1078) rfl rfl K0 L0) (op_ite ?_)
  refine Eq.trans (op_aload_n (pc' := 1079) rfl rfl rfl) ?_
  refine Eq.trans (op_iload_n (pc' := 1080) rfl rfl rfl) ?_
  refine Eq.trans (op_iconst (pc' := 1081) rfl rfl k32_3) ?_
  refine Eq.trans (op_iadd (pc' := 1082) rfl rfl) ?_
  refine Eq.trans (sop_ialoadS (pc' := 1083) rfl rfl K0 L0) (op_ite ?_)
  exact sop_virtual (pc' := 1086) (m := 11) rfl rfl rfl rfl rfl rfl rfl rfl K56
theorem lp_23 (R : Rel h) (hb : hk h < 800000) {L i : Nat} (K0 : hkd h 0 = 901) (L0 : hln h 0 = L) (hi : i + 6 ≤ L) (hL : L ≤ 384) : Lx d (Ev (d + 84) 0 1048 [vr (some 0), vr (some 1), vr (some 56), vi (nI i)] [] h) i h := by
  have st : Stq (d + 83) 113 205 [vi (hI h 0 (i + 1)), vi (hI h 0 (i + 2)), vi (hI h 0 (i + 3))] h := s_watch R
  obtain ⟨v, h1, h2, e1, e2, R2, G⟩ := st
  have Z := kz_Cl e1
  have K1 : hkd h1 0 = 901 := (Z.2 0 (Nat.zero_le _)).1.trans K0
  have L1 : hln h1 0 = L := (Z.2 0 (Nat.zero_le _)).2.1.trans L0
  have I1 : hI h1 0 = hI h 0 := (Z.2 0 (Nat.zero_le _)).2.2 K0
  have k56 : hkd h1 56 = 11 := (Z.2 56 (by have := R.2.1.1; omega)).1.trans (R.2.1.kd (n := 56) (k := 11) rfl rfl)
  obtain ⟨x, rfl⟩ := rt_i e1 rfl
  refine ⟨h2, ?_, R2, G⟩
  simp (decide := true) (disch := (first | assumption | (simp only [Sh_setI, Sm_setI, Sh_setL, Sm_setL]; assumption) | omega)) only [B_0_1048 R.1 K0 L0, n_addO, n_ix, n_cl, e1, V_0_1067 k56 K1 L1, I1, e2, B_0_1086, B_0_1421, bI_True, bI_False, p_max, p_min, p_abs, Option.bind_some, Option.bind_none, Option.toList_some, Option.toList_none, List.cons_append, List.nil_append, bI_eq0, bI_ne0, bI_ne1, bI_eq1, bI_01, eq_self, true_or, or_true, and_true, true_and, false_and, and_false, false_or, or_false, ite_true, ite_false, if_true, if_false, not_true, not_false_iff, Classical.not_not, nem, ite_not, ne_eq]
set_option maxRecDepth 30000 in
theorem V_0_1095 {a3 : Int32} {s0 : Int32} (K56 : hkd h 56 = 11) : Ev (d + 4) 0 1095 [vr (some 0), vr (some 1), vr (some 56), vi a3] [vi s0] h = (Cl (d + 3) 207 [vr (some 56)] h).bind fun x => Ev (d + 4) 0 1099 [vr (some 0), vr (some 1), vr (some 56), vi a3] (x.1.toList ++ [vi s0]) x.2 := by
  refine Eq.trans (op_aload_n (pc' := 1096) rfl rfl rfl) ?_
  exact sop_virtual (pc' := 1099) (m := 11) rfl rfl rfl rfl rfl rfl rfl rfl K56
theorem lp_24 (R : Rel h) (hb : hk h < 800000) {L i : Nat} (K0 : hkd h 0 = 901) (L0 : hln h 0 = L) (hi : i + 6 ≤ L) (hL : L ≤ 384) : Lx d (Ev (d + 84) 0 1091 [vr (some 0), vr (some 1), vr (some 56), vi (nI i)] [] h) i h := by
  have st : Stq (d + 83) 119 207 [] h := s_watched R
  obtain ⟨v, h1, h2, e1, e2, R2, G⟩ := st
  have Z := kz_Cl e1
  have k56 : hkd h1 56 = 11 := (Z.2 56 (by have := R.2.1.1; omega)).1.trans (R.2.1.kd (n := 56) (k := 11) rfl rfl)
  obtain ⟨x, rfl⟩ := rt_i e1 rfl
  refine ⟨h2, ?_, R2, G⟩
  simp (decide := true) (disch := (first | assumption | (simp only [Sh_setI, Sm_setI, Sh_setL, Sm_setL]; assumption) | omega)) only [B_0_1091 R.1, n_addO, n_ix, n_cl, e1, V_0_1095 k56, e2, B_0_1099, B_0_1421, bI_True, bI_False, p_max, p_min, p_abs, Option.bind_some, Option.bind_none, Option.toList_some, Option.toList_none, List.cons_append, List.nil_append, bI_eq0, bI_ne0, bI_ne1, bI_eq1, bI_01, eq_self, true_or, or_true, and_true, true_and, false_and, and_false, false_or, or_false, ite_true, ite_false, if_true, if_false, not_true, not_false_iff, Classical.not_not, nem, ite_not, ne_eq]
set_option maxRecDepth 30000 in
theorem V_0_1118 {a3 : Int32} {s0 : Int32} (K56 : hkd h 56 = 11) {L : Nat} (K0 : hkd h 0 = 901) (L0 : hln h 0 = L) : Ev (d + 4) 0 1118 [vr (some 0), vr (some 1), vr (some 56), vi a3] [vi s0] h = if am_ix (a3 + 1) L then if am_ix (a3 + 2) L then (Cl (d + 3) 208 [vr (some 56), vi (hI h 0 (Int32.toNatClampNeg (a3 + 1))), vi (hI h 0 (Int32.toNatClampNeg (a3 + 2)))] h).bind fun x => Ev (d + 4) 0 1132 [vr (some 0), vr (some 1), vr (some 56), vi a3] (x.1.toList ++ [vi s0]) x.2 else none else none := by
  refine Eq.trans (op_aload_n (pc' := 1119) rfl rfl rfl) ?_
  refine Eq.trans (op_aload_n (pc' := 1120) rfl rfl rfl) ?_
  refine Eq.trans (op_iload_n (pc' := 1121) rfl rfl rfl) ?_
  refine Eq.trans (op_iconst (pc' := 1122) rfl rfl k32_1) ?_
  refine Eq.trans (op_iadd (pc' := 1123) rfl rfl) ?_
  refine Eq.trans (sop_ialoadS (pc' := 1124) rfl rfl K0 L0) (op_ite ?_)
  refine Eq.trans (op_aload_n (pc' := 1125) rfl rfl rfl) ?_
  refine Eq.trans (op_iload_n (pc' := 1126) rfl rfl rfl) ?_
  refine Eq.trans (op_iconst (pc' := 1127) rfl rfl k32_2) ?_
  refine Eq.trans (op_iadd (pc' := 1128) rfl rfl) ?_
  refine Eq.trans (sop_ialoadS (pc' := 1129) rfl rfl K0 L0) (op_ite ?_)
  exact sop_virtual (pc' := 1132) (m := 11) rfl rfl rfl rfl rfl rfl rfl rfl K56
theorem lp_25 (R : Rel h) (hb : hk h < 800000) {L i : Nat} (K0 : hkd h 0 = 901) (L0 : hln h 0 = L) (hi : i + 6 ≤ L) (hL : L ≤ 384) : Lx d (Ev (d + 84) 0 1104 [vr (some 0), vr (some 1), vr (some 56), vi (nI i)] [] h) i h := by
  have st : Stq (d + 83) 120 208 [vi (hI h 0 (i + 1)), vi (hI h 0 (i + 2))] h := s_shakeTold R
  obtain ⟨v, h1, h2, e1, e2, R2, G⟩ := st
  have Z := kz_Cl e1
  have K1 : hkd h1 0 = 901 := (Z.2 0 (Nat.zero_le _)).1.trans K0
  have L1 : hln h1 0 = L := (Z.2 0 (Nat.zero_le _)).2.1.trans L0
  have I1 : hI h1 0 = hI h 0 := (Z.2 0 (Nat.zero_le _)).2.2 K0
  have k56 : hkd h1 56 = 11 := (Z.2 56 (by have := R.2.1.1; omega)).1.trans (R.2.1.kd (n := 56) (k := 11) rfl rfl)
  obtain ⟨x, rfl⟩ := rt_i e1 rfl
  refine ⟨h2, ?_, R2, G⟩
  simp (decide := true) (disch := (first | assumption | (simp only [Sh_setI, Sm_setI, Sh_setL, Sm_setL]; assumption) | omega)) only [B_0_1104 R.1 K0 L0, n_addO, n_ix, n_cl, e1, V_0_1118 k56 K1 L1, I1, e2, B_0_1132, B_0_1421, bI_True, bI_False, p_max, p_min, p_abs, Option.bind_some, Option.bind_none, Option.toList_some, Option.toList_none, List.cons_append, List.nil_append, bI_eq0, bI_ne0, bI_ne1, bI_eq1, bI_01, eq_self, true_or, or_true, and_true, true_and, false_and, and_false, false_or, or_false, ite_true, ite_false, if_true, if_false, not_true, not_false_iff, Classical.not_not, nem, ite_not, ne_eq]
set_option maxRecDepth 30000 in
theorem V_0_1146 {a3 : Int32} {s0 : Int32} (K56 : hkd h 56 = 11) {L : Nat} (K0 : hkd h 0 = 901) (L0 : hln h 0 = L) : Ev (d + 4) 0 1146 [vr (some 0), vr (some 1), vr (some 56), vi a3] [vi s0] h = if am_ix (a3 + 1) L then (Cl (d + 3) 209 [vr (some 56), vi (hI h 0 (Int32.toNatClampNeg (a3 + 1)))] h).bind fun x => Ev (d + 4) 0 1155 [vr (some 0), vr (some 1), vr (some 56), vi a3] (x.1.toList ++ [vi s0]) x.2 else none := by
  refine Eq.trans (op_aload_n (pc' := 1147) rfl rfl rfl) ?_
  refine Eq.trans (op_aload_n (pc' := 1148) rfl rfl rfl) ?_
  refine Eq.trans (op_iload_n (pc' := 1149) rfl rfl rfl) ?_
  refine Eq.trans (op_iconst (pc' := 1150) rfl rfl k32_1) ?_
  refine Eq.trans (op_iadd (pc' := 1151) rfl rfl) ?_
  refine Eq.trans (sop_ialoadS (pc' := 1152) rfl rfl K0 L0) (op_ite ?_)
  exact sop_virtual (pc' := 1155) (m := 11) rfl rfl rfl rfl rfl rfl rfl rfl K56
theorem lp_26 (R : Rel h) (hb : hk h < 800000) {L i : Nat} (K0 : hkd h 0 = 901) (L0 : hln h 0 = L) (hi : i + 6 ≤ L) (hL : L ≤ 384) : Lx d (Ev (d + 84) 0 1137 [vr (some 0), vr (some 1), vr (some 56), vi (nI i)] [] h) i h := by
  have st : Stq (d + 83) 121 209 [vi (hI h 0 (i + 1))] h := s_count R
  obtain ⟨v, h1, h2, e1, e2, R2, G⟩ := st
  have Z := kz_Cl e1
  have K1 : hkd h1 0 = 901 := (Z.2 0 (Nat.zero_le _)).1.trans K0
  have L1 : hln h1 0 = L := (Z.2 0 (Nat.zero_le _)).2.1.trans L0
  have I1 : hI h1 0 = hI h 0 := (Z.2 0 (Nat.zero_le _)).2.2 K0
  have k56 : hkd h1 56 = 11 := (Z.2 56 (by have := R.2.1.1; omega)).1.trans (R.2.1.kd (n := 56) (k := 11) rfl rfl)
  obtain ⟨x, rfl⟩ := rt_i e1 rfl
  refine ⟨h2, ?_, R2, G⟩
  simp (decide := true) (disch := (first | assumption | (simp only [Sh_setI, Sm_setI, Sh_setL, Sm_setL]; assumption) | omega)) only [B_0_1137 R.1 K0 L0, n_addO, n_ix, n_cl, e1, V_0_1146 k56 K1 L1, I1, e2, B_0_1155, B_0_1421, bI_True, bI_False, p_max, p_min, p_abs, Option.bind_some, Option.bind_none, Option.toList_some, Option.toList_none, List.cons_append, List.nil_append, bI_eq0, bI_ne0, bI_ne1, bI_eq1, bI_01, eq_self, true_or, or_true, and_true, true_and, false_and, and_false, false_or, or_false, ite_true, ite_false, if_true, if_false, not_true, not_false_iff, Classical.not_not, nem, ite_not, ne_eq]
set_option maxRecDepth 30000 in
theorem V_0_1164 {a3 : Int32} {s0 : Int32} (K56 : hkd h 56 = 11) : Ev (d + 4) 0 1164 [vr (some 0), vr (some 1), vr (some 56), vi a3] [vi s0] h = (Cl (d + 3) 210 [vr (some 56)] h).bind fun x => Ev (d + 4) 0 1168 [vr (some 0), vr (some 1), vr (some 56), vi a3] (x.1.toList ++ [vi s0]) x.2 := by
  refine Eq.trans (op_aload_n (pc' := 1165) rfl rfl rfl) ?_
  exact sop_virtual (pc' := 1168) (m := 11) rfl rfl rfl rfl rfl rfl rfl rfl K56
theorem lp_27 (R : Rel h) (hb : hk h < 800000) {L i : Nat} (K0 : hkd h 0 = 901) (L0 : hln h 0 = L) (hi : i + 6 ≤ L) (hL : L ≤ 384) : Lx d (Ev (d + 84) 0 1160 [vr (some 0), vr (some 1), vr (some 56), vi (nI i)] [] h) i h := by
  have st : Stq (d + 83) 122 210 [] h := s_image R
  obtain ⟨v, h1, h2, e1, e2, R2, G⟩ := st
  have Z := kz_Cl e1
  have k56 : hkd h1 56 = 11 := (Z.2 56 (by have := R.2.1.1; omega)).1.trans (R.2.1.kd (n := 56) (k := 11) rfl rfl)
  obtain ⟨x, rfl⟩ := rt_i e1 rfl
  refine ⟨h2, ?_, R2, G⟩
  simp (decide := true) (disch := (first | assumption | (simp only [Sh_setI, Sm_setI, Sh_setL, Sm_setL]; assumption) | omega)) only [B_0_1160 R.1, n_addO, n_ix, n_cl, e1, V_0_1164 k56, e2, B_0_1168, B_0_1421, bI_True, bI_False, p_max, p_min, p_abs, Option.bind_some, Option.bind_none, Option.toList_some, Option.toList_none, List.cons_append, List.nil_append, bI_eq0, bI_ne0, bI_ne1, bI_eq1, bI_01, eq_self, true_or, or_true, and_true, true_and, false_and, and_false, false_or, or_false, ite_true, ite_false, if_true, if_false, not_true, not_false_iff, Classical.not_not, nem, ite_not, ne_eq]
set_option maxRecDepth 30000 in
theorem V_0_1177 {a3 : Int32} {s0 : Int32} (K56 : hkd h 56 = 11) : Ev (d + 4) 0 1177 [vr (some 0), vr (some 1), vr (some 56), vi a3] [vi s0] h = (Cl (d + 3) 211 [vr (some 56)] h).bind fun x => Ev (d + 4) 0 1181 [vr (some 0), vr (some 1), vr (some 56), vi a3] (x.1.toList ++ [vi s0]) x.2 := by
  refine Eq.trans (op_aload_n (pc' := 1178) rfl rfl rfl) ?_
  exact sop_virtual (pc' := 1181) (m := 11) rfl rfl rfl rfl rfl rfl rfl rfl K56
theorem lp_28 (R : Rel h) (hb : hk h < 800000) {L i : Nat} (K0 : hkd h 0 = 901) (L0 : hln h 0 = L) (hi : i + 6 ≤ L) (hL : L ≤ 384) : Lx d (Ev (d + 84) 0 1173 [vr (some 0), vr (some 1), vr (some 56), vi (nI i)] [] h) i h := by
  have st : Stq (d + 83) 128 211 [] h := s_back R (by omega)
  obtain ⟨v, h1, h2, e1, e2, R2, G⟩ := st
  have Z := kz_Cl e1
  have k56 : hkd h1 56 = 11 := (Z.2 56 (by have := R.2.1.1; omega)).1.trans (R.2.1.kd (n := 56) (k := 11) rfl rfl)
  obtain ⟨x, rfl⟩ := rt_i e1 rfl
  refine ⟨h2, ?_, R2, G⟩
  simp (decide := true) (disch := (first | assumption | (simp only [Sh_setI, Sm_setI, Sh_setL, Sm_setL]; assumption) | omega)) only [B_0_1173 R.1, n_addO, n_ix, n_cl, e1, V_0_1177 k56, e2, B_0_1181, B_0_1421, bI_True, bI_False, p_max, p_min, p_abs, Option.bind_some, Option.bind_none, Option.toList_some, Option.toList_none, List.cons_append, List.nil_append, bI_eq0, bI_ne0, bI_ne1, bI_eq1, bI_01, eq_self, true_or, or_true, and_true, true_and, false_and, and_false, false_or, or_false, ite_true, ite_false, if_true, if_false, not_true, not_false_iff, Classical.not_not, nem, ite_not, ne_eq]
set_option maxRecDepth 30000 in
theorem V_0_1205 {a3 : Int32} {s0 : Int32} (K56 : hkd h 56 = 11) {L : Nat} (K0 : hkd h 0 = 901) (L0 : hln h 0 = L) : Ev (d + 4) 0 1205 [vr (some 0), vr (some 1), vr (some 56), vi a3] [vi s0] h = if am_ix (a3 + 1) L then if am_ix (a3 + 2) L then if am_ix (a3 + 3) L then (Cl (d + 3) 212 [vr (some 56), vi (hI h 0 (Int32.toNatClampNeg (a3 + 1))), vi (hI h 0 (Int32.toNatClampNeg (a3 + 2))), vi (hI h 0 (Int32.toNatClampNeg (a3 + 3)))] h).bind fun x => Ev (d + 4) 0 1224 [vr (some 0), vr (some 1), vr (some 56), vi a3] (x.1.toList ++ [vi s0]) x.2 else none else none else none := by
  refine Eq.trans (op_aload_n (pc' := 1206) rfl rfl rfl) ?_
  refine Eq.trans (op_aload_n (pc' := 1207) rfl rfl rfl) ?_
  refine Eq.trans (op_iload_n (pc' := 1208) rfl rfl rfl) ?_
  refine Eq.trans (op_iconst (pc' := 1209) rfl rfl k32_1) ?_
  refine Eq.trans (op_iadd (pc' := 1210) rfl rfl) ?_
  refine Eq.trans (sop_ialoadS (pc' := 1211) rfl rfl K0 L0) (op_ite ?_)
  refine Eq.trans (op_aload_n (pc' := 1212) rfl rfl rfl) ?_
  refine Eq.trans (op_iload_n (pc' := 1213) rfl rfl rfl) ?_
  refine Eq.trans (op_iconst (pc' := 1214) rfl rfl k32_2) ?_
  refine Eq.trans (op_iadd (pc' := 1215) rfl rfl) ?_
  refine Eq.trans (sop_ialoadS (pc' := 1216) rfl rfl K0 L0) (op_ite ?_)
  refine Eq.trans (op_aload_n (pc' := 1217) rfl rfl rfl) ?_
  refine Eq.trans (op_iload_n (pc' := 1218) rfl rfl rfl) ?_
  refine Eq.trans (op_iconst (pc' := 1219) rfl rfl k32_3) ?_
  refine Eq.trans (op_iadd (pc' := 1220) rfl rfl) ?_
  refine Eq.trans (sop_ialoadS (pc' := 1221) rfl rfl K0 L0) (op_ite ?_)
  exact sop_virtual (pc' := 1224) (m := 11) rfl rfl rfl rfl rfl rfl rfl rfl K56
theorem lp_29 (R : Rel h) (hb : hk h < 800000) {L i : Nat} (K0 : hkd h 0 = 901) (L0 : hln h 0 = L) (hi : i + 6 ≤ L) (hL : L ≤ 384) : Lx d (Ev (d + 84) 0 1186 [vr (some 0), vr (some 1), vr (some 56), vi (nI i)] [] h) i h := by
  have st : Stq (d + 83) 133 212 [vi (hI h 0 (i + 1)), vi (hI h 0 (i + 2)), vi (hI h 0 (i + 3))] h := s_sheet R
  obtain ⟨v, h1, h2, e1, e2, R2, G⟩ := st
  have Z := kz_Cl e1
  have K1 : hkd h1 0 = 901 := (Z.2 0 (Nat.zero_le _)).1.trans K0
  have L1 : hln h1 0 = L := (Z.2 0 (Nat.zero_le _)).2.1.trans L0
  have I1 : hI h1 0 = hI h 0 := (Z.2 0 (Nat.zero_le _)).2.2 K0
  have k56 : hkd h1 56 = 11 := (Z.2 56 (by have := R.2.1.1; omega)).1.trans (R.2.1.kd (n := 56) (k := 11) rfl rfl)
  obtain ⟨x, rfl⟩ := rt_i e1 rfl
  refine ⟨h2, ?_, R2, G⟩
  simp (decide := true) (disch := (first | assumption | (simp only [Sh_setI, Sm_setI, Sh_setL, Sm_setL]; assumption) | omega)) only [B_0_1186 R.1 K0 L0, n_addO, n_ix, n_cl, e1, V_0_1205 k56 K1 L1, I1, e2, B_0_1224, B_0_1421, bI_True, bI_False, p_max, p_min, p_abs, Option.bind_some, Option.bind_none, Option.toList_some, Option.toList_none, List.cons_append, List.nil_append, bI_eq0, bI_ne0, bI_ne1, bI_eq1, bI_01, eq_self, true_or, or_true, and_true, true_and, false_and, and_false, false_or, or_false, ite_true, ite_false, if_true, if_false, not_true, not_false_iff, Classical.not_not, nem, ite_not, ne_eq]
set_option maxRecDepth 30000 in
theorem V_0_1248 {a3 : Int32} {s0 : Int32} (K56 : hkd h 56 = 11) {L : Nat} (K0 : hkd h 0 = 901) (L0 : hln h 0 = L) : Ev (d + 4) 0 1248 [vr (some 0), vr (some 1), vr (some 56), vi a3] [vi s0] h = if am_ix (a3 + 1) L then if am_ix (a3 + 2) L then if am_ix (a3 + 3) L then (Cl (d + 3) 213 [vr (some 56), vi (hI h 0 (Int32.toNatClampNeg (a3 + 1))), vi (hI h 0 (Int32.toNatClampNeg (a3 + 2))), vi (hI h 0 (Int32.toNatClampNeg (a3 + 3)))] h).bind fun x => Ev (d + 4) 0 1267 [vr (some 0), vr (some 1), vr (some 56), vi a3] (x.1.toList ++ [vi s0]) x.2 else none else none else none := by
  refine Eq.trans (op_aload_n (pc' := 1249) rfl rfl rfl) ?_
  refine Eq.trans (op_aload_n (pc' := 1250) rfl rfl rfl) ?_
  refine Eq.trans (op_iload_n (pc' := 1251) rfl rfl rfl) ?_
  refine Eq.trans (op_iconst (pc' := 1252) rfl rfl k32_1) ?_
  refine Eq.trans (op_iadd (pc' := 1253) rfl rfl) ?_
  refine Eq.trans (sop_ialoadS (pc' := 1254) rfl rfl K0 L0) (op_ite ?_)
  refine Eq.trans (op_aload_n (pc' := 1255) rfl rfl rfl) ?_
  refine Eq.trans (op_iload_n (pc' := 1256) rfl rfl rfl) ?_
  refine Eq.trans (op_iconst (pc' := 1257) rfl rfl k32_2) ?_
  refine Eq.trans (op_iadd (pc' := 1258) rfl rfl) ?_
  refine Eq.trans (sop_ialoadS (pc' := 1259) rfl rfl K0 L0) (op_ite ?_)
  refine Eq.trans (op_aload_n (pc' := 1260) rfl rfl rfl) ?_
  refine Eq.trans (op_iload_n (pc' := 1261) rfl rfl rfl) ?_
  refine Eq.trans (op_iconst (pc' := 1262) rfl rfl k32_3) ?_
  refine Eq.trans (op_iadd (pc' := 1263) rfl rfl) ?_
  refine Eq.trans (sop_ialoadS (pc' := 1264) rfl rfl K0 L0) (op_ite ?_)
  exact sop_virtual (pc' := 1267) (m := 11) rfl rfl rfl rfl rfl rfl rfl rfl K56
theorem lp_30 (R : Rel h) (hb : hk h < 800000) {L i : Nat} (K0 : hkd h 0 = 901) (L0 : hln h 0 = L) (hi : i + 6 ≤ L) (hL : L ≤ 384) : Lx d (Ev (d + 84) 0 1229 [vr (some 0), vr (some 1), vr (some 56), vi (nI i)] [] h) i h := by
  have st : Stq (d + 83) 137 213 [vi (hI h 0 (i + 1)), vi (hI h 0 (i + 2)), vi (hI h 0 (i + 3))] h := s_cell R
  obtain ⟨v, h1, h2, e1, e2, R2, G⟩ := st
  have Z := kz_Cl e1
  have K1 : hkd h1 0 = 901 := (Z.2 0 (Nat.zero_le _)).1.trans K0
  have L1 : hln h1 0 = L := (Z.2 0 (Nat.zero_le _)).2.1.trans L0
  have I1 : hI h1 0 = hI h 0 := (Z.2 0 (Nat.zero_le _)).2.2 K0
  have k56 : hkd h1 56 = 11 := (Z.2 56 (by have := R.2.1.1; omega)).1.trans (R.2.1.kd (n := 56) (k := 11) rfl rfl)
  obtain ⟨x, rfl⟩ := rt_i e1 rfl
  refine ⟨h2, ?_, R2, G⟩
  simp (decide := true) (disch := (first | assumption | (simp only [Sh_setI, Sm_setI, Sh_setL, Sm_setL]; assumption) | omega)) only [B_0_1229 R.1 K0 L0, n_addO, n_ix, n_cl, e1, V_0_1248 k56 K1 L1, I1, e2, B_0_1267, B_0_1421, bI_True, bI_False, p_max, p_min, p_abs, Option.bind_some, Option.bind_none, Option.toList_some, Option.toList_none, List.cons_append, List.nil_append, bI_eq0, bI_ne0, bI_ne1, bI_eq1, bI_01, eq_self, true_or, or_true, and_true, true_and, false_and, and_false, false_or, or_false, ite_true, ite_false, if_true, if_false, not_true, not_false_iff, Classical.not_not, nem, ite_not, ne_eq]
set_option maxRecDepth 30000 in
theorem V_0_1301 {a3 : Int32} {s0 : Int32} (K56 : hkd h 56 = 11) {L : Nat} (K0 : hkd h 0 = 901) (L0 : hln h 0 = L) : Ev (d + 4) 0 1301 [vr (some 0), vr (some 1), vr (some 56), vi a3] [vi s0] h = if am_ix (a3 + 1) L then if am_ix (a3 + 2) L then if am_ix (a3 + 3) L then if am_ix (a3 + 4) L then if am_ix (a3 + 5) L then (Cl (d + 3) 214 [vr (some 56), vi (hI h 0 (Int32.toNatClampNeg (a3 + 1))), vi (hI h 0 (Int32.toNatClampNeg (a3 + 2))), vi (hI h 0 (Int32.toNatClampNeg (a3 + 3))), vi (hI h 0 (Int32.toNatClampNeg (a3 + 4))), vi (hI h 0 (Int32.toNatClampNeg (a3 + 5)))] h).bind fun x => Ev (d + 4) 0 1330 [vr (some 0), vr (some 1), vr (some 56), vi a3] (x.1.toList ++ [vi s0]) x.2 else none else none else none else none else none := by
  refine Eq.trans (op_aload_n (pc' := 1302) rfl rfl rfl) ?_
  refine Eq.trans (op_aload_n (pc' := 1303) rfl rfl rfl) ?_
  refine Eq.trans (op_iload_n (pc' := 1304) rfl rfl rfl) ?_
  refine Eq.trans (op_iconst (pc' := 1305) rfl rfl k32_1) ?_
  refine Eq.trans (op_iadd (pc' := 1306) rfl rfl) ?_
  refine Eq.trans (sop_ialoadS (pc' := 1307) rfl rfl K0 L0) (op_ite ?_)
  refine Eq.trans (op_aload_n (pc' := 1308) rfl rfl rfl) ?_
  refine Eq.trans (op_iload_n (pc' := 1309) rfl rfl rfl) ?_
  refine Eq.trans (op_iconst (pc' := 1310) rfl rfl k32_2) ?_
  refine Eq.trans (op_iadd (pc' := 1311) rfl rfl) ?_
  refine Eq.trans (sop_ialoadS (pc' := 1312) rfl rfl K0 L0) (op_ite ?_)
  refine Eq.trans (op_aload_n (pc' := 1313) rfl rfl rfl) ?_
  refine Eq.trans (op_iload_n (pc' := 1314) rfl rfl rfl) ?_
  refine Eq.trans (op_iconst (pc' := 1315) rfl rfl k32_3) ?_
  refine Eq.trans (op_iadd (pc' := 1316) rfl rfl) ?_
  refine Eq.trans (sop_ialoadS (pc' := 1317) rfl rfl K0 L0) (op_ite ?_)
  refine Eq.trans (op_aload_n (pc' := 1318) rfl rfl rfl) ?_
  refine Eq.trans (op_iload_n (pc' := 1319) rfl rfl rfl) ?_
  refine Eq.trans (op_iconst (pc' := 1320) rfl rfl k32_4) ?_
  refine Eq.trans (op_iadd (pc' := 1321) rfl rfl) ?_
  refine Eq.trans (sop_ialoadS (pc' := 1322) rfl rfl K0 L0) (op_ite ?_)
  refine Eq.trans (op_aload_n (pc' := 1323) rfl rfl rfl) ?_
  refine Eq.trans (op_iload_n (pc' := 1324) rfl rfl rfl) ?_
  refine Eq.trans (op_iconst (pc' := 1325) rfl rfl k32_5) ?_
  refine Eq.trans (op_iadd (pc' := 1326) rfl rfl) ?_
  refine Eq.trans (sop_ialoadS (pc' := 1327) rfl rfl K0 L0) (op_ite ?_)
  exact sop_virtual (pc' := 1330) (m := 11) rfl rfl rfl rfl rfl rfl rfl rfl K56
theorem lp_31 (R : Rel h) (hb : hk h < 800000) {L i : Nat} (K0 : hkd h 0 = 901) (L0 : hln h 0 = L) (hi : i + 6 ≤ L) (hL : L ≤ 384) : Lx d (Ev (d + 84) 0 1272 [vr (some 0), vr (some 1), vr (some 56), vi (nI i)] [] h) i h := by
  have st : Stq (d + 83) 140 214 [vi (hI h 0 (i + 1)), vi (hI h 0 (i + 2)), vi (hI h 0 (i + 3)), vi (hI h 0 (i + 4)), vi (hI h 0 (i + 5))] h := s_copy R
  obtain ⟨v, h1, h2, e1, e2, R2, G⟩ := st
  have Z := kz_Cl e1
  have K1 : hkd h1 0 = 901 := (Z.2 0 (Nat.zero_le _)).1.trans K0
  have L1 : hln h1 0 = L := (Z.2 0 (Nat.zero_le _)).2.1.trans L0
  have I1 : hI h1 0 = hI h 0 := (Z.2 0 (Nat.zero_le _)).2.2 K0
  have k56 : hkd h1 56 = 11 := (Z.2 56 (by have := R.2.1.1; omega)).1.trans (R.2.1.kd (n := 56) (k := 11) rfl rfl)
  obtain ⟨x, rfl⟩ := rt_i e1 rfl
  refine ⟨h2, ?_, R2, G⟩
  simp (decide := true) (disch := (first | assumption | (simp only [Sh_setI, Sm_setI, Sh_setL, Sm_setL]; assumption) | omega)) only [B_0_1272 R.1 K0 L0, n_addO, n_ix, n_cl, e1, V_0_1301 k56 K1 L1, I1, e2, B_0_1330, B_0_1421, bI_True, bI_False, p_max, p_min, p_abs, Option.bind_some, Option.bind_none, Option.toList_some, Option.toList_none, List.cons_append, List.nil_append, bI_eq0, bI_ne0, bI_ne1, bI_eq1, bI_01, eq_self, true_or, or_true, and_true, true_and, false_and, and_false, false_or, or_false, ite_true, ite_false, if_true, if_false, not_true, not_false_iff, Classical.not_not, nem, ite_not, ne_eq]
set_option maxRecDepth 30000 in
theorem V_0_1359 {a3 : Int32} {s0 : Int32} (K56 : hkd h 56 = 11) {L : Nat} (K0 : hkd h 0 = 901) (L0 : hln h 0 = L) : Ev (d + 4) 0 1359 [vr (some 0), vr (some 1), vr (some 56), vi a3] [vi s0] h = if am_ix (a3 + 1) L then if am_ix (a3 + 2) L then if am_ix (a3 + 3) L then if am_ix (a3 + 4) L then (Cl (d + 3) 215 [vr (some 56), vi (hI h 0 (Int32.toNatClampNeg (a3 + 1))), vi (hI h 0 (Int32.toNatClampNeg (a3 + 2))), vi (hI h 0 (Int32.toNatClampNeg (a3 + 3))), vi (hI h 0 (Int32.toNatClampNeg (a3 + 4)))] h).bind fun x => Ev (d + 4) 0 1383 [vr (some 0), vr (some 1), vr (some 56), vi a3] (x.1.toList ++ [vi s0]) x.2 else none else none else none else none := by
  refine Eq.trans (op_aload_n (pc' := 1360) rfl rfl rfl) ?_
  refine Eq.trans (op_aload_n (pc' := 1361) rfl rfl rfl) ?_
  refine Eq.trans (op_iload_n (pc' := 1362) rfl rfl rfl) ?_
  refine Eq.trans (op_iconst (pc' := 1363) rfl rfl k32_1) ?_
  refine Eq.trans (op_iadd (pc' := 1364) rfl rfl) ?_
  refine Eq.trans (sop_ialoadS (pc' := 1365) rfl rfl K0 L0) (op_ite ?_)
  refine Eq.trans (op_aload_n (pc' := 1366) rfl rfl rfl) ?_
  refine Eq.trans (op_iload_n (pc' := 1367) rfl rfl rfl) ?_
  refine Eq.trans (op_iconst (pc' := 1368) rfl rfl k32_2) ?_
  refine Eq.trans (op_iadd (pc' := 1369) rfl rfl) ?_
  refine Eq.trans (sop_ialoadS (pc' := 1370) rfl rfl K0 L0) (op_ite ?_)
  refine Eq.trans (op_aload_n (pc' := 1371) rfl rfl rfl) ?_
  refine Eq.trans (op_iload_n (pc' := 1372) rfl rfl rfl) ?_
  refine Eq.trans (op_iconst (pc' := 1373) rfl rfl k32_3) ?_
  refine Eq.trans (op_iadd (pc' := 1374) rfl rfl) ?_
  refine Eq.trans (sop_ialoadS (pc' := 1375) rfl rfl K0 L0) (op_ite ?_)
  refine Eq.trans (op_aload_n (pc' := 1376) rfl rfl rfl) ?_
  refine Eq.trans (op_iload_n (pc' := 1377) rfl rfl rfl) ?_
  refine Eq.trans (op_iconst (pc' := 1378) rfl rfl k32_4) ?_
  refine Eq.trans (op_iadd (pc' := 1379) rfl rfl) ?_
  refine Eq.trans (sop_ialoadS (pc' := 1380) rfl rfl K0 L0) (op_ite ?_)
  exact sop_virtual (pc' := 1383) (m := 11) rfl rfl rfl rfl rfl rfl rfl rfl K56
theorem lp_32 (R : Rel h) (hb : hk h < 800000) {L i : Nat} (K0 : hkd h 0 = 901) (L0 : hln h 0 = L) (hi : i + 6 ≤ L) (hL : L ≤ 384) : Lx d (Ev (d + 84) 0 1335 [vr (some 0), vr (some 1), vr (some 56), vi (nI i)] [] h) i h := by
  have st : Stq (d + 83) 141 215 [vi (hI h 0 (i + 1)), vi (hI h 0 (i + 2)), vi (hI h 0 (i + 3)), vi (hI h 0 (i + 4))] h := s_cards R (by omega)
  obtain ⟨v, h1, h2, e1, e2, R2, G⟩ := st
  have Z := kz_Cl e1
  have K1 : hkd h1 0 = 901 := (Z.2 0 (Nat.zero_le _)).1.trans K0
  have L1 : hln h1 0 = L := (Z.2 0 (Nat.zero_le _)).2.1.trans L0
  have I1 : hI h1 0 = hI h 0 := (Z.2 0 (Nat.zero_le _)).2.2 K0
  have k56 : hkd h1 56 = 11 := (Z.2 56 (by have := R.2.1.1; omega)).1.trans (R.2.1.kd (n := 56) (k := 11) rfl rfl)
  obtain ⟨x, rfl⟩ := rt_i e1 rfl
  refine ⟨h2, ?_, R2, G⟩
  simp (decide := true) (disch := (first | assumption | (simp only [Sh_setI, Sm_setI, Sh_setL, Sm_setL]; assumption) | omega)) only [B_0_1335 R.1 K0 L0, n_addO, n_ix, n_cl, e1, V_0_1359 k56 K1 L1, I1, e2, B_0_1383, B_0_1421, bI_True, bI_False, p_max, p_min, p_abs, Option.bind_some, Option.bind_none, Option.toList_some, Option.toList_none, List.cons_append, List.nil_append, bI_eq0, bI_ne0, bI_ne1, bI_eq1, bI_01, eq_self, true_or, or_true, and_true, true_and, false_and, and_false, false_or, or_false, ite_true, ite_false, if_true, if_false, not_true, not_false_iff, Classical.not_not, nem, ite_not, ne_eq]
set_option maxRecDepth 30000 in
theorem V_0_1402 {a3 : Int32} {s0 : Int32} (K56 : hkd h 56 = 11) {L : Nat} (K0 : hkd h 0 = 901) (L0 : hln h 0 = L) : Ev (d + 4) 0 1402 [vr (some 0), vr (some 1), vr (some 56), vi a3] [vi s0] h = if am_ix (a3 + 1) L then if am_ix (a3 + 2) L then (Cl (d + 3) 216 [vr (some 56), vi (hI h 0 (Int32.toNatClampNeg (a3 + 1))), vi (hI h 0 (Int32.toNatClampNeg (a3 + 2)))] h).bind fun x => Ev (d + 4) 0 1416 [vr (some 0), vr (some 1), vr (some 56), vi a3] (x.1.toList ++ [vi s0]) x.2 else none else none := by
  refine Eq.trans (op_aload_n (pc' := 1403) rfl rfl rfl) ?_
  refine Eq.trans (op_aload_n (pc' := 1404) rfl rfl rfl) ?_
  refine Eq.trans (op_iload_n (pc' := 1405) rfl rfl rfl) ?_
  refine Eq.trans (op_iconst (pc' := 1406) rfl rfl k32_1) ?_
  refine Eq.trans (op_iadd (pc' := 1407) rfl rfl) ?_
  refine Eq.trans (sop_ialoadS (pc' := 1408) rfl rfl K0 L0) (op_ite ?_)
  refine Eq.trans (op_aload_n (pc' := 1409) rfl rfl rfl) ?_
  refine Eq.trans (op_iload_n (pc' := 1410) rfl rfl rfl) ?_
  refine Eq.trans (op_iconst (pc' := 1411) rfl rfl k32_2) ?_
  refine Eq.trans (op_iadd (pc' := 1412) rfl rfl) ?_
  refine Eq.trans (sop_ialoadS (pc' := 1413) rfl rfl K0 L0) (op_ite ?_)
  exact sop_virtual (pc' := 1416) (m := 11) rfl rfl rfl rfl rfl rfl rfl rfl K56
theorem lp_33 (R : Rel h) (hb : hk h < 800000) {L i : Nat} (K0 : hkd h 0 = 901) (L0 : hln h 0 = L) (hi : i + 6 ≤ L) (hL : L ≤ 384) : Lx d (Ev (d + 84) 0 1388 [vr (some 0), vr (some 1), vr (some 56), vi (nI i)] [] h) i h := by
  have st : Stq (d + 83) 142 216 [vi (hI h 0 (i + 1)), vi (hI h 0 (i + 2))] h := s_taken R
  obtain ⟨v, h1, h2, e1, e2, R2, G⟩ := st
  have Z := kz_Cl e1
  have K1 : hkd h1 0 = 901 := (Z.2 0 (Nat.zero_le _)).1.trans K0
  have L1 : hln h1 0 = L := (Z.2 0 (Nat.zero_le _)).2.1.trans L0
  have I1 : hI h1 0 = hI h 0 := (Z.2 0 (Nat.zero_le _)).2.2 K0
  have k56 : hkd h1 56 = 11 := (Z.2 56 (by have := R.2.1.1; omega)).1.trans (R.2.1.kd (n := 56) (k := 11) rfl rfl)
  obtain ⟨x, rfl⟩ := rt_i e1 rfl
  refine ⟨h2, ?_, R2, G⟩
  simp (decide := true) (disch := (first | assumption | (simp only [Sh_setI, Sm_setI, Sh_setL, Sm_setL]; assumption) | omega)) only [B_0_1388 R.1 K0 L0, n_addO, n_ix, n_cl, e1, V_0_1402 k56 K1 L1, I1, e2, B_0_1416, B_0_1421, bI_True, bI_False, p_max, p_min, p_abs, Option.bind_some, Option.bind_none, Option.toList_some, Option.toList_none, List.cons_append, List.nil_append, bI_eq0, bI_ne0, bI_ne1, bI_eq1, bI_01, eq_self, true_or, or_true, and_true, true_and, false_and, and_false, false_or, or_false, ite_true, ite_false, if_true, if_false, not_true, not_false_iff, Classical.not_not, nem, ite_not, ne_eq]
end BLOOP
