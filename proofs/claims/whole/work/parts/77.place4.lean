/-! place: the class's search -/
def slP (m : am_M) (v : Int32) (L : List Nat) (p i : Nat) : List Int32 := sortL (L.map (hrF m v p i))
def midP (m : am_M) (v : Int32) (L : List Nat) (p i : Nat) : Int32 := (slP m v L p i).getD ((L.length - 1) / 2) 0
def offP (m : am_M) (v : Int32) (L : List Nat) (p i : Nat) : Nat := offR (fun k => (slP m v L p i).getD k 0) (midP m v L p i) L.length 0 0
def okP (m : am_M) (L : List Nat) (p i : Nat) : Bool := !L.isEmpty && allOk m p i L
def Bs (m : am_M) (v : Int32) (L : List Nat) (b : Option (Nat × Nat)) (h : am_H) : Prop := match b with
  | none => hI h 19 8 = 0
  | some x => hI h 19 8 = 1 ∧ hI h 19 9 = nI x.1 ∧ hI h 19 10 = nI (20 * x.2) ∧ hI h 19 11 = midP m v L x.1 x.2 ∧ hL h 19 12 = lI (offP m v L x.1 x.2)
theorem time_sz {m : am_M} {c : Nat} (J : Ci m c) (v : Int32) : 0 ≤ (timeF m c v).toInt ∧ (timeF m c v).toInt ≤ 9999999 := by
  obtain ⟨-, -, -, -, -, -, -, -, -, ⟨tt, htt, et⟩, ta⟩ := J
  unfold timeF
  by_cases q : m 71 c ≠ -1 ∧ m 71 c ≤ v
  · rw [if_pos q]
    rcases ta with a | ⟨w, hw, ew⟩
    · exact absurd a q.1
    · rw [ew, nI_ti (by omega)]; omega
  · rw [if_neg q, et, nI_ti (by omega)]; omega
theorem hr_ok {m : am_M} (I : Inv m) {c p i : Nat} (J : Ci m c) (hp : p < 360) (hi : i < 5) (v : Int32) (q : ¬ dueP m p i c = -1) : hrOk (hrF m v p i c) := by
  have t := time_sz J v
  obtain ⟨-, -, -, ⟨pd, hpd, epd⟩, -, -, -, ⟨r1, r2⟩, -⟩ := J
  have r1' : -99 ≤ (m 60 (yDr m c)).toInt := by rw [Int32.le_iff_toInt_le] at r1; exact r1
  have r2' : (m 60 (yDr m c)).toInt ≤ 99 := by rw [Int32.le_iff_toInt_le] at r2; exact r2
  have ed : cl (m 59 (yDr m c)) = pd := by rw [epd, cl, n_cl (by omega)]
  have a180 := apN_le hp hpd
  rcases dueF_sz I.1.2.2 (f := apN p pd) (v := 20 * i) (k := cl (m 65 c)) a180 (by omega) with w | ⟨y, ey, hy⟩
  · exact absurd (by unfold dueP dueM; rw [ed]; exact w) q
  · have ey' : dueP m p i c = nI y := by unfold dueP dueM; rw [ed]; exact ey
    unfold hrOk hrF
    rw [ey', Int32.toInt_sub, Int32.toInt_sub, nI_ti (by omega)]
    rw [Int.bmod_eq_of_le (n := (timeF m c v).toInt - (m 60 (yDr m c)).toInt) (by omega) (by omega), Int.bmod_eq_of_le (by omega) (by omega)]
    omega
theorem hl_L {L : List Nat} {G : Nat → Int32} : hlL (fun q => G (L.getD q 0)) L.length = L.map G := by
  unfold hlL
  apply List.ext_getElem?
  intro k
  rw [List.getElem?_map, List.getElem?_map]
  by_cases hk : k < L.length
  · rw [List.getElem?_range hk, List.getElem?_eq_getElem hk]
    simp [List.getD_eq_getElem?_getD, List.getElem?_eq_getElem hk]
  · rw [List.getElem?_eq_none (by rw [List.length_range]; omega), List.getElem?_eq_none (by omega)]
    rfl
theorem od_hl {n : Nat} {f : am_F} {L : List Nat} {G : Nat → Int32} (hn : n ≤ 40) (e : n = L.length) (O : Od n f) : List.Perm (hlL (fun k => G (L.getD (cl (f k)) 0)) n) (L.map G) := by
  have a : ∀ g : am_F, hlL (fun k => G (L.getD (cl (g k)) 0)) n = (hlL g n).map (fun x => G (L.getD (cl x) 0)) := fun g => by
    unfold hlL; rw [List.map_map]; rfl
  rw [a f]
  refine (O.map _).trans ?_
  rw [← a (fun k => nI k), hlL_cg (ho := fun q => G (L.getD q 0)) (fun k hk => by
    show G (L.getD (cl (nI k)) 0) = _
    rw [cl, n_cl (by omega)]), e, hl_L]
section PLACE4
variable {d : Nat} {h : am_H} {m : am_M}
theorem Pc.cg {v : Int32} {L : List Nat} {h' : am_H} (P : Pc m v L h) (e3 : hI h' 19 3 = hI h 19 3) (e : ∀ n, n = 20 ∨ n = 21 ∨ n = 22 ∨ n = 25 → hI h' n = hI h n) : Pc m v L h' := by
  refine ⟨e3.trans P.1, fun j c q => ?_⟩
  rw [e 20 (by omega), e 21 (by omega), e 22 (by omega), e 25 (by omega)]
  exact P.2 j c q
theorem Pd.cg {i : Nat} {L : List Nat} {h' : am_H} (I : Inv m) (hL : ∀ c, c ∈ L → c < yC m) (D : Pd m i L h) (e : ∀ n, 27 ≤ n → n ≤ 32 → hI h' n = hI h n) : Pd m i L h' := by
  intro c hc f hf
  obtain ⟨kd, hkd', ekd⟩ := (card_int I (hL c hc)).1
  have : cl (m 65 c) = kd := by rw [ekd, cl, n_cl (by omega)]
  rw [e _ (by omega) (by omega)]
  exact D c hc f hf
theorem Bs.cg {v : Int32} {L : List Nat} {b : Option (Nat × Nat)} {h' : am_H} (B : Bs m v L b h) (e : hI h' 19 = hI h 19) (eL : hL h' 19 = hL h 19) : Bs m v L b h' := by
  cases b with
  | none => exact (congrFun e 8).trans B
  | some x =>
    obtain ⟨b1, b2, b3, b4, b5⟩ := B
    exact ⟨(congrFun e 8).trans b1, (congrFun e 9).trans b2, (congrFun e 10).trans b3, (congrFun e 11).trans b4, (congrFun eL 12).trans b5⟩
theorem off_sz (I : Inv m) {v : Int32} {L : List Nat} (hL : ∀ c, c ∈ L → c < yC m) (hn : L.length ≤ 40) (h1 : 1 ≤ L.length) {p i : Nat} (hp : p < 360) (hi : i < 5) (ok : allOk m p i L = true) : (∀ k, k < L.length → hrOk ((slP m v L p i).getD k 0)) ∧ offP m v L p i ≤ 416003920 := by
  have a : ∀ k, k < L.length → hrOk ((slP m v L p i).getD k 0) := by
    intro k hk
    have pm : List.Perm (slP m v L p i) (L.map (hrF m v p i)) := List.mergeSort_perm _ _
    have ln : (slP m v L p i).length = L.length := by rw [pm.length_eq, List.length_map]
    have mem : (slP m v L p i).getD k 0 ∈ slP m v L p i := by
      rw [List.getD_eq_getElem?_getD, List.getElem?_eq_getElem (by omega)]
      exact List.getElem_mem _
    obtain ⟨c, hc, ec⟩ := List.mem_map.mp (pm.mem_iff.mp mem)
    rw [← ec]
    refine hr_ok I (card_int I (hL c hc)) hp hi v (fun w => ?_)
    unfold allOk at ok
    have := List.all_eq_true.mp ok c hc
    rw [w] at this
    exact absurd this (by decide)
  refine ⟨a, ?_⟩
  have := offR_le (ho := fun k => (slP m v L p i).getD k 0) (mid := midP m v L p i) (a _ (by omega)) L.length 0 0 (fun q _ hq => a q (by omega))
  unfold offP
  omega
theorem hL_eq {h : am_H} {n i : Nat} {v : Int64} : hL (setL h n i v) n i = v := by
  show (if n = n ∧ i = i then v else hL h n i) = v
  rw [if_pos ⟨rfl, rfl⟩]
theorem hL_ne {h : am_H} {n i a : Nat} {v : Int64} (q : a ≠ n) : hL (setL h n i v) a = hL h a := funext fun j => if_neg (fun w => q w.1)
theorem Fp.sl {h h' : am_H} (F : Fp h h') {i : Nat} {v : Int64} : Fp h (setL h' 19 i v) := ⟨F.1, F.2.1, F.2.2.1, F.2.2.2.1, fun a q1 => by rw [hL_ne q1]; exact F.2.2.2.2.1 a q1, fun a q1 => by rw [xI_setL]; exact F.2.2.2.2.2 a q1⟩
theorem best_w {h2 : am_H} {p : Nat} {x mid : Int32} {o : Int64} : ∃ h3, setL (setI (setI (setI (setI h2 19 8 1) 19 9 (nI p)) 19 10 x) 19 11 mid) 19 12 o = h3 ∧ Fp h2 h3 ∧ (∀ n, n ≠ 19 → hI h3 n = hI h2 n) ∧ hI h3 19 3 = hI h2 19 3 ∧ hI h3 19 8 = 1 ∧ hI h3 19 9 = nI p ∧ hI h3 19 10 = x ∧ hI h3 19 11 = mid ∧ hL h3 19 12 = o := by
  refine ⟨_, rfl, ?_, fun n q => ?_, ?_, ?_, ?_, ?_, ?_, ?_⟩
  · exact Fp.sl ((((Fp.rf.si (by omega)).si (by omega)).si (by omega)).si (by omega))
  · rw [xI_setL, hI_ne q, hI_ne q, hI_ne q, hI_ne q]
  · rw [xI_setL, hI_eq, if_neg (by omega), hI_eq, if_neg (by omega), hI_eq, if_neg (by omega), hI_eq, if_neg (by omega)]
  · rw [xI_setL, hI_eq, if_neg (by omega), hI_eq, if_neg (by omega), hI_eq, if_neg (by omega), hI_eq, if_pos rfl]
  · rw [xI_setL, hI_eq, if_neg (by omega), hI_eq, if_neg (by omega), hI_eq, if_pos rfl]
  · rw [xI_setL, hI_eq, if_neg (by omega), hI_eq, if_pos rfl]
  · rw [xI_setL, hI_eq, if_pos rfl]
  · exact hL_eq
theorem c_oneP (S : Sh h) (I : Inv m) {v : Int32} {L : List Nat} (hLc : ∀ c, c ∈ L → c < yC m) (hn : L.length ≤ 40) (h1' : 1 ≤ L.length) {i p : Nat} (hi : i < 5) (hp : p < 360) (P : Pc m v L h) (D : Pd m i L h) (O : Od L.length (hI h 23)) {b : Option (Nat × Nat)} (B : Bs m v L b h) (T : Best (okP m L) (offP m v L) (fun p' i' => p' < 360 ∧ (i' < i ∨ (i' = i ∧ p' < p))) b) : ∃ h1 b', Ev (d + 14) 97 23 [vr (some 19), vr (some 2), vi (nI (20 * i)), vi (nI p)] [] h = Ev (d + 14) 97 23 [vr (some 19), vr (some 2), vi (nI (20 * i)), vi (nI (p + 1))] [] h1 ∧ Fp h h1 ∧ Pc m v L h1 ∧ Pd m i L h1 ∧ Od L.length (hI h1 23) ∧ Bs m v L b' h1 ∧ Best (okP m L) (offP m v L) (fun p' i' => p' < 360 ∧ (i' < i ∨ (i' = i ∧ p' < p + 1))) b' := by
  have eS : ∀ p' i', (p' < 360 ∧ (i' < i ∨ (i' = i ∧ p' < p + 1))) ↔ (p' < 360 ∧ (i' < i ∨ (i' = i ∧ p' < p))) ∨ (p' = p ∧ i' = i) := fun p' i' => by omega
  have ne : L.isEmpty = false := by cases L with
    | nil => exact absurd h1' (by decide)
    | cons _ _ => rfl
  obtain ⟨h1, e1, F1, v1⟩ := c_hours (d := d + 3) S I hLc hn P D O hp
  have S1 := F1.sh S
  have st1 := F1.2.2.2.2.2
  by_cases ok : allOk m p i L = true
  · have q31 : hI h1 19 3 = nI L.length := by rw [st1 19 (by omega)]; exact P.1
    obtain ⟨h2, e2, F2, s2, p2⟩ := c_sort (d := d + 9) S1 q31 hn h1'
    have S2 := F2.sh S1
    have st2 := F2.2.2.2.2.2
    have q32 : hI h2 19 3 = nI L.length := by rw [st2 19 (by omega)]; exact q31
    obtain ⟨ph, po⟩ := pl_hl p2
    have hp1 : List.Perm (hlL (hI h2 24) L.length) (L.map (hrF m v p i)) := by
      refine ph.trans ?_
      rw [hlL_cg (ho := fun k => hrF m v p i (L.getD (cl (hI h 23 k)) 0)) (fun k hk => v1 ok k hk)]
      exact od_hl hn rfl O
    have at2 := sort_at s2 hp1
    obtain ⟨hr2, osz⟩ := off_sz I hLc hn h1' hp hi ok (v := v)
    have O2 : Od L.length (hI h2 23) := by
      have : hI h1 23 = hI h 23 := st1 23 (by omega)
      rw [this] at po
      exact po.trans O
    have ej := c_judge (d := d + 9) S2 q32 hn h1' (p := p) (x := nI (20 * i)) (fun k hk => by rw [at2 k hk]; exact hr2 k hk)
    rw [at2 ((L.length - 1) / 2) (by omega), offR_cg (ho' := fun k => (slP m v L p i).getD k 0) L.length 0 0 (fun q _ hq => at2 q (by omega))] at ej
    rw [show (sortL (L.map (hrF m v p i))).getD ((L.length - 1) / 2) 0 = midP m v L p i from rfl, show offR (fun k => (slP m v L p i).getD k 0) (midP m v L p i) L.length 0 0 = offP m v L p i from rfl] at ej
    have F12 : Fi (fun a => a = 23 ∨ a = 24) h h2 := (F1.mono (fun n q => Or.inr q)).tr F2
    have st12 := F12.2.2.2.2.2
    have B2 : Bs m v L b h2 := B.cg (st12 19 (by omega)) (by rw [F12.2.2.2.2.1])
    have okp : okP m L p i = true := by unfold okP; rw [ne, ok]; rfl
    have run : ∀ h3, Cl (d + 13) 101 [vr (some 19), vi (nI p), vi (nI (20 * i))] h2 = some (none, h3) → Ev (d + 14) 97 23 [vr (some 19), vr (some 2), vi (nI (20 * i)), vi (nI p)] [] h = Ev (d + 14) 97 23 [vr (some 19), vr (some 2), vi (nI (20 * i)), vi (nI (p + 1))] [] h3 := by
      intro h3 e3
      rw [B_97_23]
      simp (decide := true) (disch := (first | assumption | (simp only [Sh_setI, Sm_setI, Sh_setL, Sm_setL]; assumption) | omega)) only [n_Ole, show ¬ 360 ≤ p by omega, B_97_30 S, e1, ok, B_97_35, B_97_38 S1, e2, B_97_42 S2, e3, B_97_48, n_addO, bI_True, bI_False, p_max, p_min, p_abs, Option.bind_some, Option.bind_none, Option.toList_some, Option.toList_none, List.cons_append, List.nil_append, bI_eq0, bI_ne0, bI_ne1, bI_eq1, bI_01, eq_self, true_or, or_true, and_true, true_and, false_and, and_false, false_or, or_false, ite_true, ite_false, if_true, if_false, not_true, not_false_iff, Classical.not_not, nem, ite_not, ne_eq]
    have new : (hI h2 19 8 = 0 ∨ lI (offP m v L p i) < hL h2 19 12 ∨ (lI (offP m v L p i) = hL h2 19 12 ∧ ¬ hI h2 19 9 ≤ nI p)) → (∀ x, b = some x → lexLe (offP m v L p i) p i (offP m v L x.1 x.2) x.1 x.2) → ∃ h1 b', Ev (d + 14) 97 23 [vr (some 19), vr (some 2), vi (nI (20 * i)), vi (nI p)] [] h = Ev (d + 14) 97 23 [vr (some 19), vr (some 2), vi (nI (20 * i)), vi (nI (p + 1))] [] h1 ∧ Fp h h1 ∧ Pc m v L h1 ∧ Pd m i L h1 ∧ Od L.length (hI h1 23) ∧ Bs m v L b' h1 ∧ Best (okP m L) (offP m v L) (fun p' i' => p' < 360 ∧ (i' < i ∨ (i' = i ∧ p' < p + 1))) b' := by
      intro cond lx
      rw [if_pos cond] at ej
      obtain ⟨h3, e3, G, g0, g3, g8, g9, g10, g11, g12⟩ := best_w (h2 := h2) (p := p) (x := nI (20 * i)) (mid := midP m v L p i) (o := lI (offP m v L p i))
      rw [e3] at ej
      refine ⟨h3, some (p, i), run _ ej, (F12.fp (fun n q => by omega)).tr G, P.cg (by rw [g3, st12 19 (by omega)]) (fun n q => by rw [g0 n (by omega), st12 n (by omega)]), D.cg I hLc (fun n q1 q2 => by rw [g0 n (by omega), st12 n (by omega)]), by rw [g0 23 (by omega)]; exact O2, ⟨g8, g9, g10, g11, g12⟩, best_new eS okp T lx⟩
    cases b with
    | none => exact new (Or.inl B2) (fun x e => absurd e (by simp))
    | some x =>
      have sx := T.1.1
      have okx : allOk m x.1 x.2 L = true := by
        have := T.1.2
        unfold okP at this
        rw [ne] at this
        simpa using this
      have oszx := (off_sz I hLc hn h1' (show x.1 < 360 by omega) (show x.2 < 5 by omega) okx (v := v)).2
      obtain ⟨b1, b2, b3, b4, b5⟩ := id B2
      by_cases u : offP m v L p i < offP m v L x.1 x.2 ∨ (offP m v L p i = offP m v L x.1 x.2 ∧ p < x.1)
      · refine new ?_ (fun y e => ?_)
        · rw [b5, lI_lt (by omega) (by omega), b2, n_le (by omega) (by omega)]
          rcases u with u | ⟨u1, u2⟩
          · exact Or.inr (Or.inl u)
          · exact Or.inr (Or.inr ⟨by rw [u1], by omega⟩)
        · cases e
          unfold lexLe
          omega
      · have cond : ¬ (hI h2 19 8 = 0 ∨ lI (offP m v L p i) < hL h2 19 12 ∨ (lI (offP m v L p i) = hL h2 19 12 ∧ ¬ hI h2 19 9 ≤ nI p)) := by
          rw [b5, lI_lt (by omega) (by omega), b2, n_le (by omega) (by omega), b1]
          rintro (w | w | ⟨w1, w2⟩)
          · exact absurd w (by decide)
          · exact u (Or.inl w)
          · have := congrArg Int64.toInt w1
            rw [lI_toInt (by omega), lI_toInt (by omega)] at this
            exact u (Or.inr ⟨by omega, by omega⟩)
        rw [if_neg cond] at ej
        refine ⟨h2, some x, run _ ej, F12.fp (fun n q => by omega), P.cg (by rw [st12 19 (by omega)]) (fun n q => st12 n (by omega)), D.cg I hLc (fun n q1 q2 => st12 n (by omega)), O2, B2, best_old eS T ?_⟩
        unfold lexLe
        omega
  · have okp : okP m L p i = false := by
      unfold okP
      cases hq : allOk m p i L
      · rw [Bool.and_false]
      · exact absurd hq ok
    refine ⟨h1, b, ?_, F1.fp (fun n q => by omega), P.cg (by rw [st1 19 (by omega)]) (fun n q => st1 n (by omega)), D.cg I hLc (fun n q1 q2 => st1 n (by omega)), by rw [st1 23 (by omega)]; exact O, B.cg (st1 19 (by omega)) (by rw [F1.2.2.2.2.1]), best_no eS okp T⟩
    rw [B_97_23]
    simp (decide := true) (disch := (first | assumption | (simp only [Sh_setI, Sm_setI, Sh_setL, Sm_setL]; assumption) | omega)) only [n_Ole, show ¬ 360 ≤ p by omega, B_97_30 S, e1, ok, B_97_35, B_97_48, n_addO, bI_True, bI_False, p_max, p_min, p_abs, Option.bind_some, Option.bind_none, Option.toList_some, Option.toList_none, List.cons_append, List.nil_append, bI_eq0, bI_ne0, bI_ne1, bI_eq1, bI_01, eq_self, true_or, or_true, and_true, true_and, false_and, and_false, false_or, or_false, ite_true, ite_false, if_true, if_false, not_true, not_false_iff, Classical.not_not, nem, ite_not, ne_eq]
end PLACE4
