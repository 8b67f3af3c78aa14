/-! one instruction -/
section ONE2
variable {g : am_G} {M : Nat} {p : Program} {l : Launch} {e : Env} {R : Room} {s : State} {m : MethodId} {args : Array Value} {below : List Frame} {meth : Method} {c : Code} {H : Heap} {locs : List Loc} {cells slots : Nat} {Q : State → Prop}
variable {pc : Nat} {lsR : Array Slot} {rest : List Value} {h : am_H}
theorem am_newG (C : am_Cc g M p s m args meth c) (hr : RelH g h H) (hS : va_S (am_Ad g) s.heap H locs) {idx pw : Nat} {n k : Int32} (hd : decode (am_b M) pc = .ok (.multianewarray idx 2, 4)) (hf : tables_1[pw]? = some (.classLink (am_cn M) idx "[[I")) (h9 : hk h < 900000) (hn : am_ix n 4096) (hk2 : am_ix k 4096) (hcells : cells + (1 + n.toNatClampNeg) ≤ R.cells) (hslots : slots + (n.toNatClampNeg + n.toNatClampNeg * k.toNatClampNeg) ≤ R.slots)
    (kk : ∀ (H' : Heap) (locs' : List Loc), RelH g (newg h n.toNatClampNeg k.toNatClampNeg) H' → va_S (am_Ad g) s.heap H' locs' → W p l e R s m args below meth c H' locs' (cells + 1 + n.toNatClampNeg) (slots + n.toNatClampNeg + n.toNatClampNeg * k.toNatClampNeg) Q (F0 m (pc + 4) lsR (.ref (am_ro g (hk h + 1)) :: rest))) : W p l e R s m args below meth c H locs cells slots Q (F0 m pc lsR (.int k :: .int n :: rest)) := by
  obtain ⟨hx, hb, hml, hown, hts, hK, hrt, hlk, hnm, hBs⟩ := C
  obtain ⟨r1, r2⟩ := am_roN hr h9
  have hn2 := hn.2
  have hk3 := hk2.2
  refine am_Wgrid hx hb hown (hts _ (am_in hf rfl)) hK.2.2.1.2 (hts _ am_wI) rfl hd rfl (am_clamp hn) (am_clamp hk2) hn2 hk3 hcells hslots fun H1 cA cI locs1 e1 e2 z1 o1 g1 g2 lo => ?_
  generalize n.toNatClampNeg = a at *
  generalize k.toNatClampNeg = b at *
  have eA : cA = gA g 105 := Option.some.inj (e1.symm.trans (hK.2.1 105 (by unfold am_okA; omega)).2)
  have eI : cI = gA g 100 := Option.some.inj (e2.symm.trans (hK.2.1 100 (by unfold am_okA; omega)).2)
  have hsz := hr.1
  rw [r1] at kk
  refine kk H1 locs1 ?_ ⟨Nat.le_trans hS.1 (by omega), fun x h1 h2 => (o1 x (Nat.lt_of_lt_of_le h1 hS.1)).trans (hS.2.1 x h1 h2), fun q hq => ?_⟩
  · obtain ⟨a1, a2, a3, a4, a5, b1, b2, b3⟩ := hr
    have nk : ∀ x, ¬ (hk h + 1 ≤ x ∧ x ≤ hk h + 1 + a) → hkd (newg h a b) x = hkd h x ∧ hln (newg h a b) x = hln h x ∧ hI (newg h a b) x = hI h x ∧ hL (newg h a b) x = hL h x ∧ hR (newg h a b) x = hR h x := by
      intro x hx
      refine ⟨?_, ?_, ?_, ?_, ?_⟩
      · show (if x = hk h + 1 then _ else if _ then _ else _) = _
        rw [if_neg (by omega), if_neg (by omega)]
      · show (if x = hk h + 1 then _ else if _ then _ else _) = _
        rw [if_neg (by omega), if_neg (by omega)]
      · funext j
        show (if _ then _ else _) = _
        rw [if_neg hx]
      · funext j
        show (if _ then _ else _) = _
        rw [if_neg hx]
      · funext j
        show (if x = hk h + 1 then _ else if _ then _ else _) = _
        rw [if_neg (by omega), if_neg (by omega)]
    have k0 : hkd (newg h a b) (hk h + 1) = 105 := if_pos rfl
    have ki : ∀ x, hk h + 1 < x → x ≤ hk h + 1 + a → hkd (newg h a b) x = 100 := by
      intro x x1 x2
      show (if x = hk h + 1 then _ else if _ then _ else _) = _
      rw [if_neg (by omega), if_pos ⟨x1, x2⟩]
    have sp : ∀ x, 900 ≤ hkd (newg h a b) x → ¬ (hk h + 1 ≤ x ∧ x ≤ hk h + 1 + a) := by
      intro x hx q
      by_cases q1 : x = hk h + 1
      · rw [q1, k0] at hx; omega
      · rw [ki x (by omega) q.2] at hx; omega
    refine ⟨?_, ?_, fun q hq => ?_, fun x x1 x2 => ?_, fun x hx => ?_, fun x hx => ?_, fun x hx => ?_, fun x hx => ?_⟩
    · rw [z1, hsz]
      show _ = gB g + (hk h + 1 + a)
      omega
    · show hk h + 1 + a < 1000000
      omega
    · rw [o1 q (by omega)]; exact a3 q hq
    · have x2' : x ≤ hk h + 1 + a := x2
      by_cases q : hk h + 1 ≤ x ∧ x ≤ hk h + 1 + a
      · by_cases q1 : x = hk h + 1
        · refine ⟨fun z => ?_, fun z => ?_⟩
          · rw [q1, k0] at z; omega
          · rw [q1, k0, r2, g1]
            refine ⟨by unfold am_okA; omega, ?_⟩
            have el : hln (newg h a b) (hk h + 1) = a := if_pos rfl
            rw [el, eA]
            unfold am_go
            congr 2
            funext j
            have eR : hR (newg h a b) (hk h + 1) j = if j < a then some (hk h + 2 + j) else none := if_pos rfl
            unfold am_av
            rw [k0, eR, if_neg (show ¬ (105 : Nat) = 102 by omega), if_neg (show ¬ ((105 : Nat) = 100 ∨ (105 : Nat) = 101) by omega)]
            by_cases j1 : j < a
            · rw [if_pos j1, if_pos j1]
              show Value.ref _ = Value.ref (am_ro g (hk h + 2 + j))
              congr 1
              show (H.size + 1 + j : Nat) = am_ro g (hk h + 2 + j)
              unfold am_ro
              rw [if_neg (by omega), if_pos (by omega)]
              omega
            · rw [if_neg j1, if_neg j1]
              rfl
        · have x3 : hk h + 1 < x := by omega
          have k1 := ki x x3 x2'
          refine ⟨fun z => ?_, fun z => ?_⟩
          · rw [k1] at z; omega
          · rw [k1]
            refine ⟨by unfold am_okA; omega, ?_⟩
            have el : hln (newg h a b) x = b := by
              show (if x = hk h + 1 then _ else if _ then _ else _) = _
              rw [if_neg q1, if_pos ⟨x3, x2'⟩]
            have := g2 (x - (hk h + 2)) (by omega)
            rw [show H.size + 1 + (x - (hk h + 2)) = gB g + (x - 1) by omega] at this
            rw [this, el, eI]
            unfold am_gi
            congr 2
            funext j
            have eI2 : hI (newg h a b) x j = 0 := by
              show (if _ then _ else _) = _
              rw [if_pos q]
            unfold am_av
            rw [k1, eI2, if_neg (by omega), if_pos (by omega)]
      · obtain ⟨f1, f2, f3, f4, f5⟩ := nk x q
        exact (a4 x x1 (by omega)).kept f1 f2 f3 f4 f5 (o1 _ (by omega))
    · show 1 ≤ x ∧ x ≤ hk h + 1 + a
      by_cases q : hk h + 1 ≤ x ∧ x ≤ hk h + 1 + a
      · omega
      · rw [(nk x q).1] at hx
        have := a5 x hx
        omega
    · obtain ⟨f1, f2, f3, f4, f5⟩ := nk x (sp x (by omega))
      rw [f1] at hx
      rw [f2, f3]
      exact b1 x hx
    · obtain ⟨f1, f2, f3, f4, f5⟩ := nk x (sp x (by omega))
      rw [f1] at hx
      rw [f3, f5]
      exact b2 x hx
    · obtain ⟨f1, f2, f3, f4, f5⟩ := nk x (sp x (by omega))
      rw [f1] at hx
      rw [f2, f3]
      exact b3 x hx
  · rcases lo q hq with h1 | h1
    · exact hS.2.2 q h1
    · show gB g ≤ q.base
      rw [h1, hsz]
      exact Nat.le_add_right _ _
theorem am_swT {pc : Nat} : ∀ (offs : List Int) (lo : Int) (cs : List (Int × Nat)) (x : Int32) (d : Nat), am_tsw pc lo offs cs = true → -1000 ≤ lo → lo + offs.length ≤ 1001 → (∀ i (hi : i < offs.length), x.toInt = lo + i → (pc : Int) + offs[i] = (am_sw x cs d : Int)) ∧ ((x.toInt < lo ∨ lo + offs.length ≤ x.toInt) → am_sw x cs d = d) := by
  intro offs
  induction offs with
  | nil =>
    intro lo cs x d ht _ _
    match cs, ht with
    | [], _ => exact ⟨fun i hi => by simp at hi, fun _ => rfl⟩
  | cons o os ih =>
    intro lo cs x d ht h1 h2
    match cs, ht with
    | (c, t) :: cs, ht =>
      simp only [am_tsw, Bool.and_eq_true, decide_eq_true_eq] at ht
      obtain ⟨⟨rfl, t2⟩, t3⟩ := ht
      simp only [List.length_cons] at h2
      obtain ⟨i1, i2⟩ := ih (c + 1) cs x d t3 (by omega) (by omega)
      have hc : (Int32.ofInt c).toInt = c := Int32.toInt_ofInt_of_le (by simp [Int32.minValue]; omega) (by simp [Int32.maxValue]; omega)
      have heq : x = Int32.ofInt c ↔ x.toInt = c := ⟨fun q => by rw [q, hc], fun q => Int32.toInt_inj.mp (by rw [hc, q])⟩
      refine ⟨fun i hi hx => ?_, fun hx => ?_⟩
      · match i, hi with
        | 0, _ =>
          rw [am_sw, if_pos (heq.mpr (by simpa using hx))]
          simpa using t2
        | i + 1, hi =>
          rw [am_sw, if_neg (fun q => by have := heq.mp q; omega)]
          exact i1 i (by simpa using hi) (by omega)
      · simp only [List.length_cons] at hx
        rw [am_sw, if_neg (fun q => by have := heq.mp q; omega)]
        exact i2 (by omega)
theorem am_swL {pc : Nat} : ∀ (ps : List (Int × Int)) (cs : List (Int × Nat)) (x : Int32) (dd : Int) (d : Nat), am_lsw pc ps cs = true → (pc : Int) + dd = (d : Int) → (pc : Int) + Op.lookupswitch.offset ps dd x.toInt = (am_sw x cs d : Int) := by
  intro ps
  induction ps with
  | nil =>
    intro cs x dd d ht hd
    match cs, ht with
    | [], _ => simpa [Op.lookupswitch.offset, am_sw] using hd
  | cons a ps ih =>
    intro cs x dd d ht hd
    obtain ⟨k, o⟩ := a
    match cs, ht with
    | (c, t) :: cs, ht =>
      simp only [am_lsw, Bool.and_eq_true, decide_eq_true_eq] at ht
      obtain ⟨⟨⟨rfl, t2⟩, t4⟩, t3⟩ := ht
      have hc : (Int32.ofInt c).toInt = c := Int32.toInt_ofInt_of_le (by simp [Int32.minValue]; omega) (by simp [Int32.maxValue]; omega)
      by_cases q : x = Int32.ofInt c
      · rw [am_sw, if_pos q, q, hc]
        have : Op.lookupswitch.offset ((c, o) :: ps) dd c = o := by simp [Op.lookupswitch.offset]
        rw [this, t2]
      · rw [am_sw, if_neg q, lv_osw q hc]
        exact ih cs x dd d t3 hd
set_option maxHeartbeats 4000000 in
theorem am_one (C : am_Cc g M p s m args meth c) {ls st ls' st' : List am_V} {h' : am_H} {pc' : Nat} (hst : am_step M pc ls st h = some (.inl (pc', ls', st', h'))) (hr : RelH g h H) (hLr : LR g ls lsR (am_ml M)) (hS : va_S (am_Ad g) s.heap H locs) {cells' slots' : Nat} (hc : cells' + hk h = cells + hk h') (hsl : slots' + hs h = slots + hs h') (hrc : cells' ≤ R.cells) (hrs : slots' ≤ R.slots)
    (kk : ∀ (H' : Heap) (lsR' : Array Slot) (locs' : List Loc), RelH g h' H' → LR g ls' lsR' (am_ml M) → va_S (am_Ad g) s.heap H' locs' → W p l e R s m args below meth c H' locs' cells' slots' Q (F0 m pc' lsR' (st'.map (am_tv g)))) : W p l e R s m args below meth c H locs cells slots Q (F0 m pc lsR (st.map (am_tv g))) := by
  unfold am_step at hst
  split at hst
  · cases hst
  rename_i ins len pw r1 r2 z cs hrow
  obtain ⟨hd, hrl⟩ := am_rowD hrow
  obtain ⟨hx, hb, hml, hown, hts, hK, hrt, hlk, hnm, hBs⟩ := id C
  cases ins <;> try (simp only [am_do, reduceCtorEq] at hst; done)
  case aconst_null =>
    simp only [am_do] at hst
    cases hst
    have hl1 : len = 1 := by simpa [am_rl] using hrl
    subst hl1
    obtain rfl : cells' = cells := Nat.add_right_cancel (m := hk h) hc
    obtain rfl : slots' = slots := Nat.add_right_cancel (m := hs h) hsl
    exact lv_null hx hb hd (kk H lsR locs hr hLr hS)
  case iconst n =>
    simp only [am_do] at hst
    cases hst
    simp only [am_rl, Bool.and_eq_true, decide_eq_true_eq] at hrl
    obtain ⟨rfl, rfl⟩ := hrl
    obtain rfl : cells' = cells := Nat.add_right_cancel (m := hk h) hc
    obtain rfl : slots' = slots := Nat.add_right_cancel (m := hs h) hsl
    exact lv_iconst hx hb hd rfl (kk H lsR locs hr hLr hS)
  case bipush n =>
    simp only [am_do] at hst
    cases hst
    simp only [am_rl, Bool.and_eq_true, decide_eq_true_eq] at hrl
    obtain ⟨rfl, hz⟩ := hrl
    obtain rfl : cells' = cells := Nat.add_right_cancel (m := hk h) hc
    obtain rfl : slots' = slots := Nat.add_right_cancel (m := hs h) hsl
    exact lv_bipush hx hb hd hz.symm (kk H lsR locs hr hLr hS)
  case sipush n =>
    simp only [am_do] at hst
    cases hst
    simp only [am_rl, Bool.and_eq_true, decide_eq_true_eq] at hrl
    obtain ⟨rfl, hz⟩ := hrl
    obtain rfl : cells' = cells := Nat.add_right_cancel (m := hk h) hc
    obtain rfl : slots' = slots := Nat.add_right_cancel (m := hs h) hsl
    exact lv_sipush hx hb hd hz.symm (kk H lsR locs hr hLr hS)
  case lconst n =>
    simp only [am_do] at hst
    cases hst
    simp only [am_rl, Bool.and_eq_true, decide_eq_true_eq] at hrl
    obtain ⟨rfl, hz⟩ := hrl
    obtain rfl : cells' = cells := Nat.add_right_cancel (m := hk h) hc
    obtain rfl : slots' = slots := Nat.add_right_cancel (m := hs h) hsl
    exact lv_lconst hx hb hd hz.symm (kk H lsR locs hr hLr hS)
  case ldc2_w n =>
    simp only [am_do] at hst
    cases hst
    simp only [am_rl, Bool.and_eq_true, decide_eq_true_eq] at hrl
    obtain ⟨rfl, hz⟩ := hrl
    obtain rfl : cells' = cells := Nat.add_right_cancel (m := hk h) hc
    obtain rfl : slots' = slots := Nat.add_right_cancel (m := hs h) hsl
    exact lv_ldc2 hx hb hown (hts _ (am_in hz rfl)) hd (kk H lsR locs hr hLr hS)
  case ldc n =>
    simp only [am_do] at hst
    simp only [am_rl, Bool.and_eq_true, decide_eq_true_eq] at hrl
    obtain ⟨rfl, hz⟩ := hrl
    split at hst
    · rename_i q0
      cases hst
      rw [if_pos q0, decide_eq_true_eq] at hz
      obtain rfl : cells' = cells := Nat.add_right_cancel (m := hk h) hc
      obtain rfl : slots' = slots := Nat.add_right_cancel (m := hs h) hsl
      exact lv_ldc hx hb hown (hts _ (am_in hz rfl)) hd (kk H lsR locs hr hLr hS)
    · rename_i q0
      rw [if_neg q0] at hz
      split at hst
      · rename_i q1
        cases hst
        rw [if_pos q1] at hz
        split at hz
        · rename_i Cn k tx hsr
          simp only [Bool.and_eq_true, decide_eq_true_eq] at hz
          obtain ⟨rfl, rfl⟩ := hz
          obtain rfl : cells' = cells := Nat.add_right_cancel (m := hk h) hc
          obtain rfl : slots' = slots := Nat.add_right_cancel (m := hs h) hsl
          have k1 := kk H lsR locs hr hLr hS
          rw [List.map_cons, show am_tv g (vr (some (1000000 + 2 * r2))) = .ref (gK g r2) by show Value.ref (am_ro g _) = _; rw [am_roK]] at k1
          exact va_ldcS hx hb hown (hK.2.2.2.2.1.1 r2 _ hsr) hd k1
        · cases hz
      · cases hst
  case ldc_w n =>
    simp only [am_do] at hst
    simp only [am_rl, Bool.and_eq_true, decide_eq_true_eq] at hrl
    obtain ⟨rfl, hz⟩ := hrl
    split at hst
    · rename_i q0
      cases hst
      rw [if_pos q0, decide_eq_true_eq] at hz
      obtain rfl : cells' = cells := Nat.add_right_cancel (m := hk h) hc
      obtain rfl : slots' = slots := Nat.add_right_cancel (m := hs h) hsl
      exact lv_ldcw hx hb hown (hts _ (am_in hz rfl)) hd (kk H lsR locs hr hLr hS)
    · cases hst
  case iload n =>
    simp only [am_do] at hst
    simp only [am_rl, Bool.and_eq_true, decide_eq_true_eq] at hrl
    obtain ⟨rfl, rfl⟩ := hrl
    split at hst
    · rename_i x hx1
      cases hst
      obtain rfl : cells' = cells := Nat.add_right_cancel (m := hk h) hc
      obtain rfl : slots' = slots := Nat.add_right_cancel (m := hs h) hsl
      exact lv_iload hx hb hd (hLr.at hx1 am_ph_i) (kk H lsR locs hr hLr hS)
    · cases hst
  case iload_n n =>
    simp only [am_do] at hst
    simp only [am_rl, Bool.and_eq_true, decide_eq_true_eq] at hrl
    obtain ⟨rfl, rfl⟩ := hrl
    split at hst
    · rename_i x hx1
      cases hst
      obtain rfl : cells' = cells := Nat.add_right_cancel (m := hk h) hc
      obtain rfl : slots' = slots := Nat.add_right_cancel (m := hs h) hsl
      exact lv_iload_n hx hb hd rfl (hLr.at hx1 am_ph_i) (kk H lsR locs hr hLr hS)
    · cases hst
  case lload n =>
    simp only [am_do] at hst
    simp only [am_rl, Bool.and_eq_true, decide_eq_true_eq] at hrl
    obtain ⟨rfl, rfl⟩ := hrl
    split at hst
    · rename_i x hx1
      cases hst
      obtain rfl : cells' = cells := Nat.add_right_cancel (m := hk h) hc
      obtain rfl : slots' = slots := Nat.add_right_cancel (m := hs h) hsl
      exact lv_lload hx hb hd (hLr.at hx1 am_ph_l) (kk H lsR locs hr hLr hS)
    · cases hst
  case lload_n n =>
    simp only [am_do] at hst
    simp only [am_rl, Bool.and_eq_true, decide_eq_true_eq] at hrl
    obtain ⟨rfl, rfl⟩ := hrl
    split at hst
    · rename_i x hx1
      cases hst
      obtain rfl : cells' = cells := Nat.add_right_cancel (m := hk h) hc
      obtain rfl : slots' = slots := Nat.add_right_cancel (m := hs h) hsl
      exact lv_lload_n hx hb hd rfl (hLr.at hx1 am_ph_l) (kk H lsR locs hr hLr hS)
    · cases hst
  case aload n =>
    simp only [am_do] at hst
    simp only [am_rl, Bool.and_eq_true, decide_eq_true_eq] at hrl
    obtain ⟨rfl, rfl⟩ := hrl
    split at hst
    · rename_i x hx1
      cases hst
      obtain rfl : cells' = cells := Nat.add_right_cancel (m := hk h) hc
      obtain rfl : slots' = slots := Nat.add_right_cancel (m := hs h) hsl
      cases x with
      | none => exact lv_aloadN hx hb hd (hLr.at hx1 am_ph_r) (kk H lsR locs hr hLr hS)
      | some x => exact lv_aload hx hb hd (hLr.at hx1 am_ph_r) (kk H lsR locs hr hLr hS)
    · cases hst
  case aload_n n =>
    simp only [am_do] at hst
    simp only [am_rl, Bool.and_eq_true, decide_eq_true_eq] at hrl
    obtain ⟨rfl, rfl⟩ := hrl
    split at hst
    · rename_i x hx1
      cases hst
      obtain rfl : cells' = cells := Nat.add_right_cancel (m := hk h) hc
      obtain rfl : slots' = slots := Nat.add_right_cancel (m := hs h) hsl
      cases x with
      | none => exact lv_aload_nN hx hb hd rfl (hLr.at hx1 am_ph_r) (kk H lsR locs hr hLr hS)
      | some x => exact lv_aload_n hx hb hd rfl (hLr.at hx1 am_ph_r) (kk H lsR locs hr hLr hS)
    · cases hst
  case istore n =>
    simp only [am_do] at hst
    simp only [am_rl, Bool.and_eq_true, decide_eq_true_eq] at hrl
    obtain ⟨rfl, rfl⟩ := hrl
    split at hst
    · rename_i x st2
      split at hst
      · rename_i hlt
        cases hst
        obtain rfl : cells' = cells := Nat.add_right_cancel (m := hk h) hc
        obtain rfl : slots' = slots := Nat.add_right_cancel (m := hs h) hsl
        obtain ⟨h0, lv, h1, h2⟩ := hLr
        exact lv_istore hx hb hd h1 (by omega) rfl (fun ls2 hl2 => kk H ls2 locs hr (LR.set (v := vi x) h0 h2 hl2) hS)
      · cases hst
    · cases hst
  case istore_n n =>
    simp only [am_do] at hst
    simp only [am_rl, Bool.and_eq_true, decide_eq_true_eq] at hrl
    obtain ⟨rfl, rfl⟩ := hrl
    split at hst
    · rename_i x st2
      split at hst
      · rename_i hlt
        cases hst
        obtain rfl : cells' = cells := Nat.add_right_cancel (m := hk h) hc
        obtain rfl : slots' = slots := Nat.add_right_cancel (m := hs h) hsl
        obtain ⟨h0, lv, h1, h2⟩ := hLr
        exact lv_istore_n hx hb hd rfl h1 (by omega) rfl (fun ls2 hl2 => kk H ls2 locs hr (LR.set (v := vi x) h0 h2 hl2) hS)
      · cases hst
    · cases hst
  case lstore n =>
    simp only [am_do] at hst
    simp only [am_rl, Bool.and_eq_true, decide_eq_true_eq] at hrl
    obtain ⟨rfl, rfl⟩ := hrl
    split at hst
    · rename_i x st2
      split at hst
      · rename_i hlt
        cases hst
        obtain rfl : cells' = cells := Nat.add_right_cancel (m := hk h) hc
        obtain rfl : slots' = slots := Nat.add_right_cancel (m := hs h) hsl
        obtain ⟨h0, lv, h1, h2⟩ := hLr
        exact lv_lstore hx hb hd h1 (by omega) rfl (fun ls2 hl2 => kk H ls2 locs hr (LR.set2 (v := vl x) am_ph_l h0 h2 hl2) hS)
      · cases hst
    · cases hst
  case astore n =>
    simp only [am_do] at hst
    simp only [am_rl, Bool.and_eq_true, decide_eq_true_eq] at hrl
    obtain ⟨rfl, rfl⟩ := hrl
    split at hst
    · rename_i x st2
      split at hst
      · rename_i hlt
        cases hst
        obtain rfl : cells' = cells := Nat.add_right_cancel (m := hk h) hc
        obtain rfl : slots' = slots := Nat.add_right_cancel (m := hs h) hsl
        obtain ⟨h0, lv, h1, h2⟩ := hLr
        cases x with
        | none => exact lv_astoreN hx hb hd h1 (by omega) rfl (fun ls2 hl2 => kk H ls2 locs hr (LR.set (v := vr none) h0 h2 hl2) hS)
        | some x => exact lv_astore hx hb hd h1 (by omega) rfl (fun ls2 hl2 => kk H ls2 locs hr (LR.set (v := vr (some x)) h0 h2 hl2) hS)
      · cases hst
    · cases hst
  case lstore_n n =>
    simp only [am_do] at hst
    simp only [am_rl, Bool.and_eq_true, decide_eq_true_eq] at hrl
    obtain ⟨rfl, rfl⟩ := hrl
    split at hst
    · rename_i x st2
      split at hst
      · rename_i hlt
        cases hst
        obtain rfl : cells' = cells := Nat.add_right_cancel (m := hk h) hc
        obtain rfl : slots' = slots := Nat.add_right_cancel (m := hs h) hsl
        obtain ⟨h0, lv, h1, h2⟩ := hLr
        exact lv_lstore_n hx hb hd rfl h1 (by omega) rfl (fun ls2 hl2 => kk H ls2 locs hr (LR.set2 (v := vl x) am_ph_l h0 h2 hl2) hS)
      · cases hst
    · cases hst
  case astore_n n =>
    simp only [am_do] at hst
    simp only [am_rl, Bool.and_eq_true, decide_eq_true_eq] at hrl
    obtain ⟨rfl, rfl⟩ := hrl
    split at hst
    · rename_i x st2
      split at hst
      · rename_i hlt
        cases hst
        obtain rfl : cells' = cells := Nat.add_right_cancel (m := hk h) hc
        obtain rfl : slots' = slots := Nat.add_right_cancel (m := hs h) hsl
        obtain ⟨h0, lv, h1, h2⟩ := hLr
        cases x with
        | none => exact lv_astore_nN hx hb hd rfl h1 (by omega) rfl (fun ls2 hl2 => kk H ls2 locs hr (LR.set (v := vr none) h0 h2 hl2) hS)
        | some x => exact lv_astore_n hx hb hd rfl h1 (by omega) rfl (fun ls2 hl2 => kk H ls2 locs hr (LR.set (v := vr (some x)) h0 h2 hl2) hS)
      · cases hst
    · cases hst
  case iinc n k =>
    simp only [am_do] at hst
    simp only [am_rl, Bool.and_eq_true, decide_eq_true_eq] at hrl
    obtain ⟨⟨rfl, rfl⟩, rfl⟩ := hrl
    split at hst
    · rename_i x hx1
      cases hst
      obtain rfl : cells' = cells := Nat.add_right_cancel (m := hk h) hc
      obtain rfl : slots' = slots := Nat.add_right_cancel (m := hs h) hsl
      obtain ⟨h0, lv, h1, h2⟩ := hLr
      obtain ⟨q, hq⟩ := List.getElem?_of_mem (h2 _ _ hx1 am_ph_i)
      have hlt : r1 < am_ml M := by rw [← h0]; exact (List.getElem?_eq_some_iff.mp hx1).1
      exact lv_iinc hx hb hd h1 hq rfl hlt rfl (fun ls2 hl2 => kk H ls2 locs hr (LR.set (v := vi (x + Int32.ofInt z)) h0 h2 hl2) hS)
    · cases hst
  case iadd =>
    simp only [am_do] at hst
    have hl1 : len = 1 := by simpa [am_rl] using hrl
    subst hl1
    split at hst
    · rename_i y x st2
      cases hst
      obtain rfl : cells' = cells := Nat.add_right_cancel (m := hk h) hc
      obtain rfl : slots' = slots := Nat.add_right_cancel (m := hs h) hsl
      exact lv_iadd hx hb hd (kk H lsR locs hr hLr hS)
    · cases hst
  case isub =>
    simp only [am_do] at hst
    have hl1 : len = 1 := by simpa [am_rl] using hrl
    subst hl1
    split at hst
    · rename_i y x st2
      cases hst
      obtain rfl : cells' = cells := Nat.add_right_cancel (m := hk h) hc
      obtain rfl : slots' = slots := Nat.add_right_cancel (m := hs h) hsl
      exact lv_isub hx hb hd (kk H lsR locs hr hLr hS)
    · cases hst
  case imul =>
    simp only [am_do] at hst
    have hl1 : len = 1 := by simpa [am_rl] using hrl
    subst hl1
    split at hst
    · rename_i y x st2
      cases hst
      obtain rfl : cells' = cells := Nat.add_right_cancel (m := hk h) hc
      obtain rfl : slots' = slots := Nat.add_right_cancel (m := hs h) hsl
      exact lv_imul hx hb hd (kk H lsR locs hr hLr hS)
    · cases hst
  case iand =>
    simp only [am_do] at hst
    have hl1 : len = 1 := by simpa [am_rl] using hrl
    subst hl1
    split at hst
    · rename_i y x st2
      cases hst
      obtain rfl : cells' = cells := Nat.add_right_cancel (m := hk h) hc
      obtain rfl : slots' = slots := Nat.add_right_cancel (m := hs h) hsl
      exact lv_iand hx hb hd (kk H lsR locs hr hLr hS)
    · cases hst
  case ior =>
    simp only [am_do] at hst
    have hl1 : len = 1 := by simpa [am_rl] using hrl
    subst hl1
    split at hst
    · rename_i y x st2
      cases hst
      obtain rfl : cells' = cells := Nat.add_right_cancel (m := hk h) hc
      obtain rfl : slots' = slots := Nat.add_right_cancel (m := hs h) hsl
      exact lv_ior hx hb hd (kk H lsR locs hr hLr hS)
    · cases hst
  case ixor =>
    simp only [am_do] at hst
    have hl1 : len = 1 := by simpa [am_rl] using hrl
    subst hl1
    split at hst
    · rename_i y x st2
      cases hst
      obtain rfl : cells' = cells := Nat.add_right_cancel (m := hk h) hc
      obtain rfl : slots' = slots := Nat.add_right_cancel (m := hs h) hsl
      exact lv_ixor hx hb hd (kk H lsR locs hr hLr hS)
    · cases hst
  case ishl =>
    simp only [am_do] at hst
    have hl1 : len = 1 := by simpa [am_rl] using hrl
    subst hl1
    split at hst
    · rename_i y x st2
      cases hst
      obtain rfl : cells' = cells := Nat.add_right_cancel (m := hk h) hc
      obtain rfl : slots' = slots := Nat.add_right_cancel (m := hs h) hsl
      exact lv_ishl hx hb hd (kk H lsR locs hr hLr hS)
    · cases hst
  case ishr =>
    simp only [am_do] at hst
    have hl1 : len = 1 := by simpa [am_rl] using hrl
    subst hl1
    split at hst
    · rename_i y x st2
      cases hst
      obtain rfl : cells' = cells := Nat.add_right_cancel (m := hk h) hc
      obtain rfl : slots' = slots := Nat.add_right_cancel (m := hs h) hsl
      exact lv_ishr hx hb hd (kk H lsR locs hr hLr hS)
    · cases hst
  case ladd =>
    simp only [am_do] at hst
    have hl1 : len = 1 := by simpa [am_rl] using hrl
    subst hl1
    split at hst
    · rename_i y x st2
      cases hst
      obtain rfl : cells' = cells := Nat.add_right_cancel (m := hk h) hc
      obtain rfl : slots' = slots := Nat.add_right_cancel (m := hs h) hsl
      exact lv_ladd hx hb hd (kk H lsR locs hr hLr hS)
    · cases hst
  case lsub =>
    simp only [am_do] at hst
    have hl1 : len = 1 := by simpa [am_rl] using hrl
    subst hl1
    split at hst
    · rename_i y x st2
      cases hst
      obtain rfl : cells' = cells := Nat.add_right_cancel (m := hk h) hc
      obtain rfl : slots' = slots := Nat.add_right_cancel (m := hs h) hsl
      exact lv_lsub hx hb hd (kk H lsR locs hr hLr hS)
    · cases hst
  case lmul =>
    simp only [am_do] at hst
    have hl1 : len = 1 := by simpa [am_rl] using hrl
    subst hl1
    split at hst
    · rename_i y x st2
      cases hst
      obtain rfl : cells' = cells := Nat.add_right_cancel (m := hk h) hc
      obtain rfl : slots' = slots := Nat.add_right_cancel (m := hs h) hsl
      exact lv_lmul hx hb hd (kk H lsR locs hr hLr hS)
    · cases hst
  case land =>
    simp only [am_do] at hst
    have hl1 : len = 1 := by simpa [am_rl] using hrl
    subst hl1
    split at hst
    · rename_i y x st2
      cases hst
      obtain rfl : cells' = cells := Nat.add_right_cancel (m := hk h) hc
      obtain rfl : slots' = slots := Nat.add_right_cancel (m := hs h) hsl
      exact lv_land hx hb hd (kk H lsR locs hr hLr hS)
    · cases hst
  case lor =>
    simp only [am_do] at hst
    have hl1 : len = 1 := by simpa [am_rl] using hrl
    subst hl1
    split at hst
    · rename_i y x st2
      cases hst
      obtain rfl : cells' = cells := Nat.add_right_cancel (m := hk h) hc
      obtain rfl : slots' = slots := Nat.add_right_cancel (m := hs h) hsl
      exact lv_lor hx hb hd (kk H lsR locs hr hLr hS)
    · cases hst
  case iushr =>
    simp only [am_do] at hst
    have hl1 : len = 1 := by simpa [am_rl] using hrl
    subst hl1
    split at hst
    · rename_i y x st2
      cases hst
      obtain rfl : cells' = cells := Nat.add_right_cancel (m := hk h) hc
      obtain rfl : slots' = slots := Nat.add_right_cancel (m := hs h) hsl
      exact lv_iushr hx hb hd rfl (kk H lsR locs hr hLr hS)
    · cases hst
  case lshl =>
    simp only [am_do] at hst
    have hl1 : len = 1 := by simpa [am_rl] using hrl
    subst hl1
    split at hst
    · rename_i y x st2
      cases hst
      obtain rfl : cells' = cells := Nat.add_right_cancel (m := hk h) hc
      obtain rfl : slots' = slots := Nat.add_right_cancel (m := hs h) hsl
      exact lv_lshl hx hb hd rfl (kk H lsR locs hr hLr hS)
    · cases hst
  case lshr =>
    simp only [am_do] at hst
    have hl1 : len = 1 := by simpa [am_rl] using hrl
    subst hl1
    split at hst
    · rename_i y x st2
      cases hst
      obtain rfl : cells' = cells := Nat.add_right_cancel (m := hk h) hc
      obtain rfl : slots' = slots := Nat.add_right_cancel (m := hs h) hsl
      exact lv_lshr hx hb hd rfl (kk H lsR locs hr hLr hS)
    · cases hst
  case idiv =>
    simp only [am_do] at hst
    have hl1 : len = 1 := by simpa [am_rl] using hrl
    subst hl1
    split at hst
    · rename_i y x st2
      split at hst
      · cases hst
      · rename_i hy
        cases hst
        obtain rfl : cells' = cells := Nat.add_right_cancel (m := hk h) hc
        obtain rfl : slots' = slots := Nat.add_right_cancel (m := hs h) hsl
        exact lv_idiv hx hb hd hy (kk H lsR locs hr hLr hS)
    · cases hst
  case irem =>
    simp only [am_do] at hst
    have hl1 : len = 1 := by simpa [am_rl] using hrl
    subst hl1
    split at hst
    · rename_i y x st2
      split at hst
      · cases hst
      · rename_i hy
        cases hst
        obtain rfl : cells' = cells := Nat.add_right_cancel (m := hk h) hc
        obtain rfl : slots' = slots := Nat.add_right_cancel (m := hs h) hsl
        exact lv_irem hx hb hd hy (kk H lsR locs hr hLr hS)
    · cases hst
  case ldiv =>
    simp only [am_do] at hst
    have hl1 : len = 1 := by simpa [am_rl] using hrl
    subst hl1
    split at hst
    · rename_i y x st2
      split at hst
      · cases hst
      · rename_i hy
        cases hst
        obtain rfl : cells' = cells := Nat.add_right_cancel (m := hk h) hc
        obtain rfl : slots' = slots := Nat.add_right_cancel (m := hs h) hsl
        exact lv_ldiv hx hb hd hy (kk H lsR locs hr hLr hS)
    · cases hst
  case lrem =>
    simp only [am_do] at hst
    have hl1 : len = 1 := by simpa [am_rl] using hrl
    subst hl1
    split at hst
    · rename_i y x st2
      split at hst
      · cases hst
      · rename_i hy
        cases hst
        obtain rfl : cells' = cells := Nat.add_right_cancel (m := hk h) hc
        obtain rfl : slots' = slots := Nat.add_right_cancel (m := hs h) hsl
        exact lv_lrem hx hb hd hy (kk H lsR locs hr hLr hS)
    · cases hst
  case ineg =>
    simp only [am_do] at hst
    have hl1 : len = 1 := by simpa [am_rl] using hrl
    subst hl1
    split at hst
    · rename_i x st2
      cases hst
      obtain rfl : cells' = cells := Nat.add_right_cancel (m := hk h) hc
      obtain rfl : slots' = slots := Nat.add_right_cancel (m := hs h) hsl
      exact lv_ineg hx hb hd (kk H lsR locs hr hLr hS)
    · cases hst
  case lneg =>
    simp only [am_do] at hst
    have hl1 : len = 1 := by simpa [am_rl] using hrl
    subst hl1
    split at hst
    · rename_i x st2
      cases hst
      obtain rfl : cells' = cells := Nat.add_right_cancel (m := hk h) hc
      obtain rfl : slots' = slots := Nat.add_right_cancel (m := hs h) hsl
      exact lv_lneg hx hb hd (kk H lsR locs hr hLr hS)
    · cases hst
  case i2l =>
    simp only [am_do] at hst
    have hl1 : len = 1 := by simpa [am_rl] using hrl
    subst hl1
    split at hst
    · rename_i x st2
      cases hst
      obtain rfl : cells' = cells := Nat.add_right_cancel (m := hk h) hc
      obtain rfl : slots' = slots := Nat.add_right_cancel (m := hs h) hsl
      exact lv_i2l hx hb hd rfl (kk H lsR locs hr hLr hS)
    · cases hst
  case l2i =>
    simp only [am_do] at hst
    have hl1 : len = 1 := by simpa [am_rl] using hrl
    subst hl1
    split at hst
    · rename_i x st2
      cases hst
      obtain rfl : cells' = cells := Nat.add_right_cancel (m := hk h) hc
      obtain rfl : slots' = slots := Nat.add_right_cancel (m := hs h) hsl
      exact lv_l2i hx hb hd rfl (kk H lsR locs hr hLr hS)
    · cases hst
  case i2b =>
    simp only [am_do] at hst
    have hl1 : len = 1 := by simpa [am_rl] using hrl
    subst hl1
    split at hst
    · rename_i x st2
      cases hst
      obtain rfl : cells' = cells := Nat.add_right_cancel (m := hk h) hc
      obtain rfl : slots' = slots := Nat.add_right_cancel (m := hs h) hsl
      exact lv_i2b hx hb hd rfl (kk H lsR locs hr hLr hS)
    · cases hst
  case i2s =>
    simp only [am_do] at hst
    have hl1 : len = 1 := by simpa [am_rl] using hrl
    subst hl1
    split at hst
    · rename_i x st2
      cases hst
      obtain rfl : cells' = cells := Nat.add_right_cancel (m := hk h) hc
      obtain rfl : slots' = slots := Nat.add_right_cancel (m := hs h) hsl
      exact lv_i2s hx hb hd rfl (kk H lsR locs hr hLr hS)
    · cases hst
  case i2c =>
    simp only [am_do] at hst
    have hl1 : len = 1 := by simpa [am_rl] using hrl
    subst hl1
    split at hst
    · rename_i x st2
      cases hst
      obtain rfl : cells' = cells := Nat.add_right_cancel (m := hk h) hc
      obtain rfl : slots' = slots := Nat.add_right_cancel (m := hs h) hsl
      exact lv_i2c hx hb hd rfl (kk H lsR locs hr hLr hS)
    · cases hst
  case lcmp =>
    simp only [am_do] at hst
    have hl1 : len = 1 := by simpa [am_rl] using hrl
    subst hl1
    split at hst
    · rename_i y x st2
      cases hst
      obtain rfl : cells' = cells := Nat.add_right_cancel (m := hk h) hc
      obtain rfl : slots' = slots := Nat.add_right_cancel (m := hs h) hsl
      exact W.lcmp hx hb hd (kk H lsR locs hr hLr hS)
    · cases hst
  case dup =>
    simp only [am_do] at hst
    have hl1 : len = 1 := by simpa [am_rl] using hrl
    subst hl1
    split at hst
    · rename_i v st2
      split at hst
      · cases hst
      · rename_i hv
        cases hst
        obtain rfl : cells' = cells := Nat.add_right_cancel (m := hk h) hc
        obtain rfl : slots' = slots := Nat.add_right_cancel (m := hs h) hsl
        exact lv_dup hx hb hd (am_cat1 hv) (kk H lsR locs hr hLr hS)
    · cases hst
  case pop =>
    simp only [am_do] at hst
    have hl1 : len = 1 := by simpa [am_rl] using hrl
    subst hl1
    split at hst
    · rename_i v st2
      split at hst
      · cases hst
      · rename_i hv
        cases hst
        obtain rfl : cells' = cells := Nat.add_right_cancel (m := hk h) hc
        obtain rfl : slots' = slots := Nat.add_right_cancel (m := hs h) hsl
        exact lv_pop hx hb hd (am_cat1 hv) (kk H lsR locs hr hLr hS)
    · cases hst
  case dup_x1 =>
    simp only [am_do] at hst
    have hl1 : len = 1 := by simpa [am_rl] using hrl
    subst hl1
    split at hst
    · rename_i v w st2
      split at hst
      · cases hst
      · rename_i hv
        cases hst
        obtain rfl : cells' = cells := Nat.add_right_cancel (m := hk h) hc
        obtain rfl : slots' = slots := Nat.add_right_cancel (m := hs h) hsl
        exact lv_dup_x1 hx hb hd (am_cat1 fun q => hv (Or.inl q)) (am_cat1 fun q => hv (Or.inr q)) (kk H lsR locs hr hLr hS)
    · cases hst
  case dup2 =>
    simp only [am_do] at hst
    have hl1 : len = 1 := by simpa [am_rl] using hrl
    subst hl1
    split at hst
    · rename_i v w st2
      split at hst
      · cases hst
      · rename_i hv
        cases hst
        obtain rfl : cells' = cells := Nat.add_right_cancel (m := hk h) hc
        obtain rfl : slots' = slots := Nat.add_right_cancel (m := hs h) hsl
        exact lv_dup2_11 hx hb hd (am_cat1 fun q => hv (Or.inl q)) (am_cat1 fun q => hv (Or.inr q)) (kk H lsR locs hr hLr hS)
    · cases hst
  case goto off =>
    simp only [am_do] at hst
    cases hst
    simp only [am_rl, Bool.and_eq_true, decide_eq_true_eq] at hrl
    obtain ⟨rfl, ht⟩ := hrl
    obtain rfl : cells' = cells := Nat.add_right_cancel (m := hk h) hc
    obtain rfl : slots' = slots := Nat.add_right_cancel (m := hs h) hsl
    exact lv_goto hx hb hd ht (kk H lsR locs hr hLr hS)
  case ifCond cd off =>
    simp only [am_rl, Bool.and_eq_true, decide_eq_true_eq] at hrl
    obtain ⟨rfl, ht⟩ := hrl
    cases cd <;> simp only [am_do] at hst <;> split at hst
    · rename_i x st2
      split at hst
      · rename_i q
        cases hst
        obtain rfl : cells' = cells := Nat.add_right_cancel (m := hk h) hc
        obtain rfl : slots' = slots := Nat.add_right_cancel (m := hs h) hsl
        exact lv_if_eq hx hb hd ht (fun _ => kk H lsR locs hr hLr hS) (fun n => absurd q n)
      · rename_i q
        cases hst
        obtain rfl : cells' = cells := Nat.add_right_cancel (m := hk h) hc
        obtain rfl : slots' = slots := Nat.add_right_cancel (m := hs h) hsl
        exact lv_if_eq hx hb hd ht (fun n => absurd n q) (fun _ => kk H lsR locs hr hLr hS)
    · cases hst
    · rename_i x st2
      split at hst
      · rename_i q
        cases hst
        obtain rfl : cells' = cells := Nat.add_right_cancel (m := hk h) hc
        obtain rfl : slots' = slots := Nat.add_right_cancel (m := hs h) hsl
        exact lv_if_ne hx hb hd ht (fun _ => kk H lsR locs hr hLr hS) (fun n => absurd n q)
      · rename_i q
        cases hst
        obtain rfl : cells' = cells := Nat.add_right_cancel (m := hk h) hc
        obtain rfl : slots' = slots := Nat.add_right_cancel (m := hs h) hsl
        exact lv_if_ne hx hb hd ht (fun n => absurd n q) (fun _ => kk H lsR locs hr hLr hS)
    · cases hst
    · rename_i x st2
      split at hst
      · rename_i q
        cases hst
        obtain rfl : cells' = cells := Nat.add_right_cancel (m := hk h) hc
        obtain rfl : slots' = slots := Nat.add_right_cancel (m := hs h) hsl
        exact lv_if_lt hx hb hd ht (fun _ => kk H lsR locs hr hLr hS) (fun n => absurd q n)
      · rename_i q
        cases hst
        obtain rfl : cells' = cells := Nat.add_right_cancel (m := hk h) hc
        obtain rfl : slots' = slots := Nat.add_right_cancel (m := hs h) hsl
        exact lv_if_lt hx hb hd ht (fun n => absurd n q) (fun _ => kk H lsR locs hr hLr hS)
    · cases hst
    · rename_i x st2
      split at hst
      · rename_i q
        cases hst
        obtain rfl : cells' = cells := Nat.add_right_cancel (m := hk h) hc
        obtain rfl : slots' = slots := Nat.add_right_cancel (m := hs h) hsl
        exact lv_if_ge hx hb hd ht (fun _ => kk H lsR locs hr hLr hS) (fun n => absurd q n)
      · rename_i q
        cases hst
        obtain rfl : cells' = cells := Nat.add_right_cancel (m := hk h) hc
        obtain rfl : slots' = slots := Nat.add_right_cancel (m := hs h) hsl
        exact lv_if_ge hx hb hd ht (fun n => absurd n q) (fun _ => kk H lsR locs hr hLr hS)
    · cases hst
    · rename_i x st2
      split at hst
      · rename_i q
        cases hst
        obtain rfl : cells' = cells := Nat.add_right_cancel (m := hk h) hc
        obtain rfl : slots' = slots := Nat.add_right_cancel (m := hs h) hsl
        exact lv_if_gt hx hb hd ht (fun _ => kk H lsR locs hr hLr hS) (fun n => absurd q n)
      · rename_i q
        cases hst
        obtain rfl : cells' = cells := Nat.add_right_cancel (m := hk h) hc
        obtain rfl : slots' = slots := Nat.add_right_cancel (m := hs h) hsl
        exact lv_if_gt hx hb hd ht (fun n => absurd n q) (fun _ => kk H lsR locs hr hLr hS)
    · cases hst
    · rename_i x st2
      split at hst
      · rename_i q
        cases hst
        obtain rfl : cells' = cells := Nat.add_right_cancel (m := hk h) hc
        obtain rfl : slots' = slots := Nat.add_right_cancel (m := hs h) hsl
        exact lv_if_le hx hb hd ht (fun _ => kk H lsR locs hr hLr hS) (fun n => absurd q n)
      · rename_i q
        cases hst
        obtain rfl : cells' = cells := Nat.add_right_cancel (m := hk h) hc
        obtain rfl : slots' = slots := Nat.add_right_cancel (m := hs h) hsl
        exact lv_if_le hx hb hd ht (fun n => absurd n q) (fun _ => kk H lsR locs hr hLr hS)
    · cases hst
  case if_icmp cd off =>
    simp only [am_rl, Bool.and_eq_true, decide_eq_true_eq] at hrl
    obtain ⟨rfl, ht⟩ := hrl
    cases cd <;> simp only [am_do] at hst <;> split at hst
    · rename_i y x st2
      split at hst
      · rename_i q
        cases hst
        obtain rfl : cells' = cells := Nat.add_right_cancel (m := hk h) hc
        obtain rfl : slots' = slots := Nat.add_right_cancel (m := hs h) hsl
        exact lv_icmp_eq hx hb hd ht (fun _ => kk H lsR locs hr hLr hS) (fun n => absurd q n)
      · rename_i q
        cases hst
        obtain rfl : cells' = cells := Nat.add_right_cancel (m := hk h) hc
        obtain rfl : slots' = slots := Nat.add_right_cancel (m := hs h) hsl
        exact lv_icmp_eq hx hb hd ht (fun n => absurd n q) (fun _ => kk H lsR locs hr hLr hS)
    · cases hst
    · rename_i y x st2
      split at hst
      · rename_i q
        cases hst
        obtain rfl : cells' = cells := Nat.add_right_cancel (m := hk h) hc
        obtain rfl : slots' = slots := Nat.add_right_cancel (m := hs h) hsl
        exact lv_icmp_ne hx hb hd ht (fun _ => kk H lsR locs hr hLr hS) (fun n => absurd n q)
      · rename_i q
        cases hst
        obtain rfl : cells' = cells := Nat.add_right_cancel (m := hk h) hc
        obtain rfl : slots' = slots := Nat.add_right_cancel (m := hs h) hsl
        exact lv_icmp_ne hx hb hd ht (fun n => absurd n q) (fun _ => kk H lsR locs hr hLr hS)
    · cases hst
    · rename_i y x st2
      split at hst
      · rename_i q
        cases hst
        obtain rfl : cells' = cells := Nat.add_right_cancel (m := hk h) hc
        obtain rfl : slots' = slots := Nat.add_right_cancel (m := hs h) hsl
        exact lv_icmp_lt hx hb hd ht (fun _ => kk H lsR locs hr hLr hS) (fun n => absurd q n)
      · rename_i q
        cases hst
        obtain rfl : cells' = cells := Nat.add_right_cancel (m := hk h) hc
        obtain rfl : slots' = slots := Nat.add_right_cancel (m := hs h) hsl
        exact lv_icmp_lt hx hb hd ht (fun n => absurd n q) (fun _ => kk H lsR locs hr hLr hS)
    · cases hst
    · rename_i y x st2
      split at hst
      · rename_i q
        cases hst
        obtain rfl : cells' = cells := Nat.add_right_cancel (m := hk h) hc
        obtain rfl : slots' = slots := Nat.add_right_cancel (m := hs h) hsl
        exact lv_icmp_ge hx hb hd ht (fun _ => kk H lsR locs hr hLr hS) (fun n => absurd q n)
      · rename_i q
        cases hst
        obtain rfl : cells' = cells := Nat.add_right_cancel (m := hk h) hc
        obtain rfl : slots' = slots := Nat.add_right_cancel (m := hs h) hsl
        exact lv_icmp_ge hx hb hd ht (fun n => absurd n q) (fun _ => kk H lsR locs hr hLr hS)
    · cases hst
    · rename_i y x st2
      split at hst
      · rename_i q
        cases hst
        obtain rfl : cells' = cells := Nat.add_right_cancel (m := hk h) hc
        obtain rfl : slots' = slots := Nat.add_right_cancel (m := hs h) hsl
        exact lv_icmp_gt hx hb hd ht (fun _ => kk H lsR locs hr hLr hS) (fun n => absurd q n)
      · rename_i q
        cases hst
        obtain rfl : cells' = cells := Nat.add_right_cancel (m := hk h) hc
        obtain rfl : slots' = slots := Nat.add_right_cancel (m := hs h) hsl
        exact lv_icmp_gt hx hb hd ht (fun n => absurd n q) (fun _ => kk H lsR locs hr hLr hS)
    · cases hst
    · rename_i y x st2
      split at hst
      · rename_i q
        cases hst
        obtain rfl : cells' = cells := Nat.add_right_cancel (m := hk h) hc
        obtain rfl : slots' = slots := Nat.add_right_cancel (m := hs h) hsl
        exact lv_icmp_le hx hb hd ht (fun _ => kk H lsR locs hr hLr hS) (fun n => absurd q n)
      · rename_i q
        cases hst
        obtain rfl : cells' = cells := Nat.add_right_cancel (m := hk h) hc
        obtain rfl : slots' = slots := Nat.add_right_cancel (m := hs h) hsl
        exact lv_icmp_le hx hb hd ht (fun n => absurd n q) (fun _ => kk H lsR locs hr hLr hS)
    · cases hst
  case ifnull off =>
    simp only [am_do] at hst
    simp only [am_rl, Bool.and_eq_true, decide_eq_true_eq] at hrl
    obtain ⟨rfl, ht⟩ := hrl
    split at hst
    · rename_i x st2
      cases x with
      | none =>
        rw [if_pos rfl] at hst
        cases hst
        obtain rfl : cells' = cells := Nat.add_right_cancel (m := hk h) hc
        obtain rfl : slots' = slots := Nat.add_right_cancel (m := hs h) hsl
        exact lv_ifnullN hx hb hd ht (kk H lsR locs hr hLr hS)
      | some x =>
        rw [if_neg (fun q => by cases q)] at hst
        cases hst
        obtain rfl : cells' = cells := Nat.add_right_cancel (m := hk h) hc
        obtain rfl : slots' = slots := Nat.add_right_cancel (m := hs h) hsl
        exact lv_ifnull hx hb hd (kk H lsR locs hr hLr hS)
    · cases hst
  case ifnonnull off =>
    simp only [am_do] at hst
    simp only [am_rl, Bool.and_eq_true, decide_eq_true_eq] at hrl
    obtain ⟨rfl, ht⟩ := hrl
    split at hst
    · rename_i x st2
      cases x with
      | none =>
        rw [if_neg (fun q => q rfl)] at hst
        cases hst
        obtain rfl : cells' = cells := Nat.add_right_cancel (m := hk h) hc
        obtain rfl : slots' = slots := Nat.add_right_cancel (m := hs h) hsl
        exact lv_ifnonnullN hx hb hd (kk H lsR locs hr hLr hS)
      | some x =>
        rw [if_pos (fun q => by cases q)] at hst
        cases hst
        obtain rfl : cells' = cells := Nat.add_right_cancel (m := hk h) hc
        obtain rfl : slots' = slots := Nat.add_right_cancel (m := hs h) hsl
        exact lv_ifnonnull hx hb hd ht (kk H lsR locs hr hLr hS)
    · cases hst
  case tableswitch dd lo hi offs =>
    simp only [am_do] at hst
    simp only [am_rl, Bool.and_eq_true, decide_eq_true_eq] at hrl
    obtain ⟨⟨⟨t1, t2⟩, t3⟩, t4⟩ := hrl
    split at hst
    · rename_i x st2
      cases hst
      obtain rfl : cells' = cells := Nat.add_right_cancel (m := hk h) hc
      obtain rfl : slots' = slots := Nat.add_right_cancel (m := hs h) hsl
      obtain ⟨i1, i2⟩ := am_swT offs.toList lo cs x r1 t2 t4.1 (by simp; omega)
      simp only [Array.length_toList] at i1 i2
      by_cases q : x.toInt < lo ∨ hi < x.toInt
      · have e2 := i2 (by omega)
        have k1 := kk H lsR locs hr hLr hS
        rw [e2] at k1
        exact lv_tableOut hx hb hd q t1 k1
      · have q1 : ¬ x.toInt < lo := fun z => q (Or.inl z)
        have q2 : ¬ hi < x.toInt := fun z => q (Or.inr z)
        have hi1 : (x.toInt - lo).toNat < offs.size := by omega
        exact lv_tableIn hx hb hd q1 q2 (Array.getElem?_eq_getElem hi1) (by have := i1 (x.toInt - lo).toNat (by simpa using hi1) (by omega); simpa using this) (kk H lsR locs hr hLr hS)
    · cases hst
  case lookupswitch dd ps =>
    simp only [am_do] at hst
    simp only [am_rl, Bool.and_eq_true, decide_eq_true_eq] at hrl
    obtain ⟨⟨t1, t2⟩, t3⟩ := hrl
    split at hst
    · rename_i x st2
      cases hst
      obtain rfl : cells' = cells := Nat.add_right_cancel (m := hk h) hc
      obtain rfl : slots' = slots := Nat.add_right_cancel (m := hs h) hsl
      exact lv_lookup hx hb hd t3 rfl (am_swL ps.toList cs x dd r1 t2 t1) (kk H lsR locs hr hLr hS)
    · cases hst
  case getstatic i =>
    simp only [am_do] at hst
    simp only [am_rl, Bool.and_eq_true, decide_eq_true_eq] at hrl
    obtain ⟨rfl, hz⟩ := hrl
    split at hst
    · rename_i q
      cases hst
      obtain rfl : cells' = cells := Nat.add_right_cancel (m := hk h) hc
      obtain rfl : slots' = slots := Nat.add_right_cancel (m := hs h) hsl
      rw [q] at hz
      simp only [decide_true, Bool.not_true, Bool.false_or, decide_eq_true_eq] at hz
      obtain ⟨cf, kf, fi, f, a, cell, z1, z2, z3, z4, z5, z6, z7, z8⟩ := hK.2.2.2.2.2.1.1
      have hlt : a < gB g := by rw [← hK.2.2.2.2.2.2.2.2]; exact (Array.getElem?_eq_some_iff.mp z5).1
      exact W.gets hx hb hown (hts _ (am_in hz rfl)) z1 z2 z3 z4 (by rw [hr.2.2.1 a hlt]; exact z5) (fun e => by rw [e] at z6; cases z6) z7 rfl hd (kk H lsR locs hr hLr hS)
    · cases hst
  case getfield i =>
    simp only [am_do] at hst
    simp only [am_rl, Bool.and_eq_true, decide_eq_true_eq] at hrl
    obtain ⟨rfl, hz⟩ := hrl
    split at hst
    · rename_i n st2
      split at hst
      · rename_i q9
        rw [if_pos q9] at hz
        simp only [Bool.and_eq_true, decide_eq_true_eq] at hz
        split at hst
        · rename_i qk
          obtain ⟨k, k1, rfl, k3, k4⟩ := hr.2.2.2.2.2.2.1 n qk
          obtain ⟨s1, s2, s3, s4⟩ := hK.2.2.2.2.1.2.1 k k1
          have hroK : am_tv g (vr (some (1000000 + 2 * k))) = .ref (gK g k) := by show Value.ref (am_ro g _) = _; rw [am_roK]
          rw [List.map_cons, hroK]
          split at hst
          · rename_i q0
            subst q0
            cases hst
            obtain rfl : cells' = cells := Nat.add_right_cancel (m := hk h) hc
            obtain rfl : slots' = slots := Nat.add_right_cancel (m := hs h) hsl
            have kq := kk H lsR locs hr hLr hS
            rw [List.map_cons, k3, show am_tv g (vr (some (1000001 + 2 * k))) = .ref (gV g k) by show Value.ref (am_ro g _) = _; rw [am_roV]] at kq
            obtain ⟨cf, kf, fi, f, cell, g1, g2, g3, g4, g5, g6⟩ := s3
            have hlt : gK g k < gB g := by rw [← hK.2.2.2.2.2.2.2.2]; exact (Array.getElem?_eq_some_iff.mp g3).1
            exact W.getf hx hb hown (hts _ (am_in hz.2 rfl)) g1 g2 (by rw [hr.2.2.1 _ hlt]; exact g3) g4 g5 rfl rfl hd kq
          · rename_i q0
            split at hst
            · rename_i q1
              subst q1
              cases hst
              obtain rfl : cells' = cells := Nat.add_right_cancel (m := hk h) hc
              obtain rfl : slots' = slots := Nat.add_right_cancel (m := hs h) hsl
              have kq := kk H lsR locs hr hLr hS
              rw [List.map_cons, k4] at kq
              obtain ⟨cf, kf, fi, f, cell, g1, g2, g3, g4, g5, g6⟩ := s2
              have hlt : gK g k < gB g := by rw [← hK.2.2.2.2.2.2.2.2]; exact (Array.getElem?_eq_some_iff.mp g3).1
              exact W.getf hx hb hown (hts _ (am_in hz.2 rfl)) g1 g2 (by rw [hr.2.2.1 _ hlt]; exact g3) g4 g5 rfl rfl hd kq
            · cases hst
        · cases hst
      · rename_i q9
        rw [if_neg q9] at hz
        split at hst
        · rename_i qk
          split at hst
          · rename_i qf
            cases hst
            obtain rfl : cells' = cells := Nat.add_right_cancel (m := hk h) hc
            obtain rfl : slots' = slots := Nat.add_right_cancel (m := hs h) hsl
            have ev : am_fv g h n r2 = .int (hI h n r2) := by
              unfold am_fv
              rw [qk, if_neg (by omega), if_neg (by omega)]
            exact am_getO C hr hd qk hz (by rw [ev]; exact kk H lsR locs hr hLr hS)
          · split at hst
            · rename_i qf
              cases hst
              obtain rfl : cells' = cells := Nat.add_right_cancel (m := hk h) hc
              obtain rfl : slots' = slots := Nat.add_right_cancel (m := hs h) hsl
              have ev : am_fv g h n r2 = .long (hL h n r2) := by
                unfold am_fv
                rw [qk, if_pos qf]
              exact am_getO C hr hd qk hz (by rw [ev]; exact kk H lsR locs hr hLr hS)
            · split at hst
              · rename_i qf
                cases hst
                obtain rfl : cells' = cells := Nat.add_right_cancel (m := hk h) hc
                obtain rfl : slots' = slots := Nat.add_right_cancel (m := hs h) hsl
                have ev : am_fv g h n r2 = va_rf ((hR h n r2).map (am_ro g)) := by
                  unfold am_fv
                  rw [qk, if_neg (by omega), if_pos qf]
                exact am_getO C hr hd qk hz (by rw [ev]; exact kk H lsR locs hr hLr hS)
              · cases hst
        · cases hst
    · cases hst
  case putfield i =>
    simp only [am_do] at hst
    simp only [am_rl, Bool.and_eq_true, decide_eq_true_eq] at hrl
    obtain ⟨⟨rfl, hz⟩, hy⟩ := hrl
    have hok : am_fok r1 r2 := by
      unfold am_fk at hz
      split at hz
      · rename_i Cn F N hcl
        simp only [Bool.and_eq_true, decide_eq_true_eq] at hz
        exact (am_cokA hcl).2.2.2.2.1 r2 hz.1.1
      · cases hz
    split at hst
    · rename_i x n st2
      split at hst
      · rename_i q
        cases hst
        obtain rfl : cells' = cells := Nat.add_right_cancel (m := hk h) hc
        obtain rfl : slots' = slots := Nat.add_right_cancel (m := hs h) hsl
        obtain ⟨qk, qf⟩ := q
        have hty : narrow (am_ty r1 r2) (.int x) = .int x ∧ fits (am_ty r1 r2) (.int x) = true ∧ (am_ft r1 r2 = 0 ∨ am_ft r1 r2 = 3) := by
          rcases hok with ⟨f1, f2⟩ | ⟨f1, f2⟩ | ⟨f1, f2⟩ | ⟨f1, f2⟩
          · rw [f2]; exact ⟨rfl, rfl, Or.inl f1⟩
          · rw [f2]
            rcases qf with qf | ⟨-, rfl | rfl⟩
            · omega
            · exact ⟨rfl, rfl, Or.inr f1⟩
            · exact ⟨rfl, rfl, Or.inr f1⟩
          · omega
          · omega
        exact am_putO C hr hd qk hz hy hty.1 hty.2.1 fun H1 j z1 o1 c1 => kk H1 lsR _ (am_storeF hr qk rfl rfl rfl (am_nI n r2 x) (am_fvI (by rw [qk]; exact hty.2.2)) z1 o1 c1) hLr (am_S1 hS z1 o1 (Nat.le_add_right _ _))
      · cases hst
    · rename_i x n st2
      split at hst
      · rename_i q
        cases hst
        obtain rfl : cells' = cells := Nat.add_right_cancel (m := hk h) hc
        obtain rfl : slots' = slots := Nat.add_right_cancel (m := hs h) hsl
        obtain ⟨qk, qf⟩ := q
        have hty : am_ty r1 r2 = .long := by
          rcases hok with ⟨f1, f2⟩ | ⟨f1, f2⟩ | ⟨f1, f2⟩ | ⟨f1, f2⟩
          · omega
          · omega
          · exact f2
          · omega
        exact am_putO C hr hd qk hz hy (by rw [hty]; rfl) (by rw [hty]; rfl) fun H1 j z1 o1 c1 => kk H1 lsR _ (am_storeF hr qk rfl rfl rfl (am_nL n r2 x) (am_fvL (by rw [qk]; exact qf)) z1 o1 c1) hLr (am_S1 hS z1 o1 (Nat.le_add_right _ _))
      · cases hst
    · rename_i x n st2
      split at hst
      · rename_i q
        cases hst
        obtain rfl : cells' = cells := Nat.add_right_cancel (m := hk h) hc
        obtain rfl : slots' = slots := Nat.add_right_cancel (m := hs h) hsl
        obtain ⟨qk, qf⟩ := q
        have hty : (am_ty r1 r2).isReference = true := by
          rcases hok with ⟨f1, f2⟩ | ⟨f1, f2⟩ | ⟨f1, f2⟩ | ⟨f1, f2⟩
          · omega
          · omega
          · omega
          · exact f2
        have hfit : narrow (am_ty r1 r2) (va_rf (x.map (am_ro g))) = va_rf (x.map (am_ro g)) ∧ fits (am_ty r1 r2) (va_rf (x.map (am_ro g))) = true := by
          generalize am_ty r1 r2 = ty at hty
          cases x <;> cases ty <;> first | (simp [FieldType.isReference] at hty; done) | exact ⟨rfl, rfl⟩
        exact am_putO C hr hd qk hz hy hfit.1 hfit.2 fun H1 j z1 o1 c1 => kk H1 lsR _ (am_storeF hr qk rfl rfl rfl (am_nR n r2 x) (am_fvR (by rw [qk]; exact qf)) z1 o1 c1) hLr (am_S1 hS z1 o1 (Nat.le_add_right _ _))
      · cases hst
    · cases hst
  case iaload =>
    simp only [am_do] at hst
    have hl1 : len = 1 := by simpa [am_rl] using hrl
    subst hl1
    split at hst
    · rename_i i n st2
      split at hst
      · rename_i q
        cases hst
        obtain rfl : cells' = cells := Nat.add_right_cancel (m := hk h) hc
        obtain rfl : slots' = slots := Nat.add_right_cancel (m := hs h) hsl
        obtain ⟨qk, qi⟩ := q
        rcases qk with qk | qk
        · obtain ⟨a0, a1, a2, a3, a4⟩ := am_arrO C hr (n := n) (by omega) (by omega)
          rw [qk] at a1 a2
          exact W.iald hx hb a1 (a2 _ _) (fun q => by cases q) (by show ¬ (_ ∨ (arrV _ _ _).slots.size ≤ _); rw [arrV_size]; exact am_vpin qi) (by rw [arrV_read _ _ qi.2]; unfold am_av; rw [if_neg (by omega), if_pos (by omega)]; rfl) rfl rfl hd (kk H lsR locs hr hLr hS)
        · obtain ⟨rfl, k2, k3⟩ := hr.2.2.2.2.2.1 n qk
          obtain ⟨scr, x1, x2, x3, x4, x5⟩ := hK.2.2.2.2.2.2.1
          have hlt := hK.2.2.2.2.2.2.2.1
          have ea : am_tv g (vr (some 0)) = .ref (gb g) := by show Value.ref (am_ro g 0) = _; rw [am_ro0]
          rw [List.map_cons, List.map_cons, ea]
          rw [k2] at qi
          exact W.iald hx hb (by rw [hr.2.2.1 _ hlt]; exact x1) x2 x3 (by rw [x4]; exact am_vpin qi) (by rw [x5 _ qi.2, ← k3]; rfl) rfl rfl hd (kk H lsR locs hr hLr hS)
      · cases hst
    · cases hst
  case baload =>
    simp only [am_do] at hst
    have hl1 : len = 1 := by simpa [am_rl] using hrl
    subst hl1
    split at hst
    · rename_i i n st2
      split at hst
      · rename_i q
        cases hst
        obtain rfl : cells' = cells := Nat.add_right_cancel (m := hk h) hc
        obtain rfl : slots' = slots := Nat.add_right_cancel (m := hs h) hsl
        obtain ⟨qk, qi⟩ := q
        rcases qk with qk | qk
        · obtain ⟨a0, a1, a2, a3, a4⟩ := am_arrO C hr (n := n) (by omega) (by omega)
          rw [qk] at a1 a2
          exact W.zald hx hb a1 (a2 _ _) (fun q => by cases q) (by show ¬ (_ ∨ (arrV _ _ _).slots.size ≤ _); rw [arrV_size]; exact am_vpin qi) (by rw [arrV_read _ _ qi.2]; unfold am_av; rw [if_neg (by omega), if_pos (by omega)]; rfl) rfl rfl hd (kk H lsR locs hr hLr hS)
        · obtain ⟨k, k1, rfl, k3, k4⟩ := hr.2.2.2.2.2.2.2 n qk
          obtain ⟨s1, s2, s3, scr, x1, x2, x3, x4, x5, x6, x7⟩ := hK.2.2.2.2.1.2.1 k k1
          have hlt : gV g k < gB g := by rw [← hK.2.2.2.2.2.2.2.2]; exact (Array.getElem?_eq_some_iff.mp x1).1
          have ea : am_tv g (vr (some (1000001 + 2 * k))) = .ref (gV g k) := by show Value.ref (am_ro g _) = _; rw [am_roV]
          rw [List.map_cons, List.map_cons, ea]
          rw [k3] at qi
          have hsz : ¬ (i < 0 ∨ scr.slots.size ≤ i.toNatClampNeg) := by
            intro z
            rcases z with z | z
            · exact Int32.not_lt.mpr qi.1 z
            · have := qi.2
              omega
          exact W.bald hx hb (by rw [hr.2.2.1 _ hlt]; exact x1) x2 x3 hsz (by rw [x6 _ qi.2]; show some (Value.int _) = some (Value.int _); rw [← k4 _ qi.2]) rfl rfl hd (kk H lsR locs hr hLr hS)
      · cases hst
    · cases hst
  case laload =>
    simp only [am_do] at hst
    have hl1 : len = 1 := by simpa [am_rl] using hrl
    subst hl1
    split at hst
    · rename_i i n st2
      split at hst
      · rename_i q
        cases hst
        obtain rfl : cells' = cells := Nat.add_right_cancel (m := hk h) hc
        obtain rfl : slots' = slots := Nat.add_right_cancel (m := hs h) hsl
        obtain ⟨qk, qi⟩ := q
        obtain ⟨a0, a1, a2, a3, a4⟩ := am_arrO C hr (n := n) (by omega) (by omega)
        rw [qk] at a1 a2
        exact W.lald hx hb a1 (a2 _ _) (fun q => by cases q) (by show ¬ (_ ∨ (arrV _ _ _).slots.size ≤ _); rw [arrV_size]; exact am_vpin qi) (by rw [arrV_read _ _ qi.2]; unfold am_av; rw [if_pos qk]; rfl) rfl rfl hd (kk H lsR locs hr hLr hS)
      · cases hst
    · cases hst
  case aaload =>
    simp only [am_do] at hst
    have hl1 : len = 1 := by simpa [am_rl] using hrl
    subst hl1
    split at hst
    · rename_i i n st2
      split at hst
      · rename_i q
        cases hst
        obtain rfl : cells' = cells := Nat.add_right_cancel (m := hk h) hc
        obtain rfl : slots' = slots := Nat.add_right_cancel (m := hs h) hsl
        obtain ⟨qk, qi⟩ := q
        obtain ⟨a0, a1, a2, a3, a4⟩ := am_arrO C hr (n := n) (by omega) (by omega)
        have hty : (am_at (hkd h n)).isReference = true := by
          unfold am_at
          rw [if_neg (by omega), if_neg (by omega), if_neg (by omega)]
          split <;> rfl
        exact W.aald hx hb a1 (a2 _ _) hty (fun q => by cases q) (by show ¬ (_ ∨ (arrV _ _ _).slots.size ≤ _); rw [arrV_size]; exact am_vpin qi) (by rw [arrV_read _ _ qi.2]; unfold am_av; rw [if_neg (by omega), if_neg (by omega)]; rfl) rfl rfl hd (kk H lsR locs hr hLr hS)
      · cases hst
    · cases hst
  case iastore =>
    simp only [am_do] at hst
    have hl1 : len = 1 := by simpa [am_rl] using hrl
    subst hl1
    split at hst
    · rename_i x i n st2
      split at hst
      · rename_i q
        cases hst
        obtain rfl : cells' = cells := Nat.add_right_cancel (m := hk h) hc
        obtain rfl : slots' = slots := Nat.add_right_cancel (m := hs h) hsl
        obtain ⟨qk, qi⟩ := q
        obtain ⟨a0, a1, a2, a3, a4⟩ := am_arrO C hr (n := n) (by omega) (by omega)
        refine W.iast hx hb a1 (by have := a2 (hln h n) (am_av g h n); rw [show am_at (hkd h n) = .int by rw [qk]; rfl] at this; exact this) (fun q => by cases q) (by show ¬ (_ ∨ (arrV _ _ _).slots.size ≤ _); rw [arrV_size]; exact am_vpin qi) rfl rfl hd fun H1 e1 z1 o1 => ?_
        exact kk H1 lsR _ (am_storeA hr (by omega) (by omega) rfl rfl rfl (am_nI n _ x) (am_avI (Or.inl qk)) z1 o1 e1) hLr (am_S1 hS z1 o1 (by rw [a0]; exact Nat.le_add_right _ _))
      · cases hst
    · cases hst
  case bastore =>
    simp only [am_do] at hst
    have hl1 : len = 1 := by simpa [am_rl] using hrl
    subst hl1
    split at hst
    · rename_i x i n st2
      split at hst
      · rename_i q
        cases hst
        obtain rfl : cells' = cells := Nat.add_right_cancel (m := hk h) hc
        obtain rfl : slots' = slots := Nat.add_right_cancel (m := hs h) hsl
        obtain ⟨qk, qi, qx⟩ := q
        obtain ⟨a0, a1, a2, a3, a4⟩ := am_arrO C hr (n := n) (by omega) (by omega)
        refine W.zast hx hb a1 (by have := a2 (hln h n) (am_av g h n); rw [show am_at (hkd h n) = .boolean by rw [qk]; rfl] at this; exact this) (fun q => by cases q) (by show ¬ (_ ∨ (arrV _ _ _).slots.size ≤ _); rw [arrV_size]; exact am_vpin qi) rfl rfl hd fun H1 e1 z1 o1 => ?_
        have en : narrow .boolean (.int x) = .int x := by rcases qx with rfl | rfl <;> rfl
        rw [en] at e1
        exact kk H1 lsR _ (am_storeA hr (by omega) (by omega) rfl rfl rfl (am_nI n _ x) (am_avI (Or.inr qk)) z1 o1 e1) hLr (am_S1 hS z1 o1 (by rw [a0]; exact Nat.le_add_right _ _))
      · cases hst
    · cases hst
  case lastore =>
    simp only [am_do] at hst
    have hl1 : len = 1 := by simpa [am_rl] using hrl
    subst hl1
    split at hst
    · rename_i x i n st2
      split at hst
      · rename_i q
        cases hst
        obtain rfl : cells' = cells := Nat.add_right_cancel (m := hk h) hc
        obtain rfl : slots' = slots := Nat.add_right_cancel (m := hs h) hsl
        obtain ⟨qk, qi⟩ := q
        obtain ⟨a0, a1, a2, a3, a4⟩ := am_arrO C hr (n := n) (by omega) (by omega)
        refine W.last hx hb a1 (by have := a2 (hln h n) (am_av g h n); rw [show am_at (hkd h n) = .long by rw [qk]; rfl] at this; exact this) (fun q => by cases q) (by show ¬ (_ ∨ (arrV _ _ _).slots.size ≤ _); rw [arrV_size]; exact am_vpin qi) rfl rfl hd fun H1 e1 z1 o1 => ?_
        exact kk H1 lsR _ (am_storeA hr (by omega) (by omega) rfl rfl rfl (am_nL n _ x) (am_avL qk) z1 o1 e1) hLr (am_S1 hS z1 o1 (by rw [a0]; exact Nat.le_add_right _ _))
      · cases hst
    · cases hst
  case aastore =>
    simp only [am_do] at hst
    have hl1 : len = 1 := by simpa [am_rl] using hrl
    subst hl1
    split at hst
    · rename_i v i n st2
      split at hst
      · rename_i q
        cases hst
        obtain rfl : cells' = cells := Nat.add_right_cancel (m := hk h) hc
        obtain rfl : slots' = slots := Nat.add_right_cancel (m := hs h) hsl
        obtain ⟨qk, qv, qi⟩ := q
        obtain ⟨a0, a1, a2, a3, a4⟩ := am_arrO C hr (n := n) (by omega) (by omega)
        obtain ⟨r0, n1, n2⟩ := am_roO hr (n := v) (by omega)
        obtain ⟨q, q1, cellV, v1, v2, v3, v4⟩ := (hr.2.2.2.1 v n1 n2).1 (by omega)
        obtain ⟨c1, c2, c3, c4, c5, c6, c7, c8, c9⟩ := am_cokA q1
        have hty : am_at (hkd h n) = .object q.1 := by
          unfold am_at
          rw [if_neg (by omega), if_neg (by omega), if_neg (by omega), if_neg (by omega), show hkd h n - 110 = hkd h v by omega, c9]
        rw [hty] at a2 a3
        obtain ⟨vmA, kA, hkA, comp, hkind⟩ := a2 (hln h n) (am_av g h n)
        obtain ⟨hSl, hfc, kV, hkV, hkindV⟩ := hK.1 _ _ q1
        have hAO : va_AO q.1 s := by rw [← c9]; exact hK.2.2.1.1 _ (by unfold am_okA at a4; omega) (by unfold am_okA at a4; omega)
        obtain ⟨compN, cA2, kA2, w1, -, w2, w3, w4⟩ := Cond.arrayOver_spec hAO
        have ecA : cA2 = gA g (hkd h n) := Option.some.inj (w4.symm.trans a3)
        subst ecA
        have ek : kA2 = kA := Option.some.inj (w2.symm.trans hkA)
        subst ek
        rw [w3] at hkind
        cases hkind
        have ec : comp = gC g (hkd h v) := Option.some.inj (w1.symm.trans hfc)
        subst ec
        rw [← r0] at v1
        refine W.aast hx hb a1 (fun z q => by cases q) (fun q => by cases q) hkA w3 rfl hkV (by exact ⟨Int32.not_lt.mpr qi.1, by rw [arrV_size]; exact qi.2⟩) v1 (fun z q => by rw [v3] at q; cases q) (by rw [v2]; exact hkV) (by rw [v2]; exact va_asg _ _) rfl rfl hd fun H1 e1 z1 o1 => ?_
        exact kk H1 lsR _ (am_storeA hr (by omega) (by omega) rfl rfl rfl (am_nR n _ (some v)) (am_avR (by omega)) z1 o1 e1) hLr (am_S1 hS z1 o1 (by rw [a0]; exact Nat.le_add_right _ _))
      · cases hst
    · cases hst
  case arraylength =>
    simp only [am_do] at hst
    have hl1 : len = 1 := by simpa [am_rl] using hrl
    subst hl1
    split at hst
    · rename_i n st2
      split at hst
      · rename_i q
        cases hst
        obtain rfl : cells' = cells := Nat.add_right_cancel (m := hk h) hc
        obtain rfl : slots' = slots := Nat.add_right_cancel (m := hs h) hsl
        rcases q with q | q | q
        · obtain ⟨a0, a1, a2, a3, a4⟩ := am_arrO C hr (n := n) (by omega) (by omega)
          exact W.alen hx hb a1 (a2 _ _) (by rw [arrV_size]; rfl) rfl rfl hd (kk H lsR locs hr hLr hS)
        · obtain ⟨rfl, k2, k3⟩ := hr.2.2.2.2.2.1 n q
          obtain ⟨scr, x1, x2, x3, x4, x5⟩ := hK.2.2.2.2.2.2.1
          have hlt := hK.2.2.2.2.2.2.2.1
          have ea : am_tv g (vr (some 0)) = .ref (gb g) := by show Value.ref (am_ro g 0) = _; rw [am_ro0]
          rw [List.map_cons, ea]
          exact W.alen hx hb (by rw [hr.2.2.1 _ hlt]; exact x1) x2 (by rw [x4, k2]; rfl) rfl rfl hd (kk H lsR locs hr hLr hS)
        · obtain ⟨k, k1, rfl, k3, k4⟩ := hr.2.2.2.2.2.2.2 n q
          obtain ⟨s1, s2, s3, scr, x1, x2, x3, x4, x5, x6, x7⟩ := hK.2.2.2.2.1.2.1 k k1
          have hlt : gV g k < gB g := by rw [← hK.2.2.2.2.2.2.2.2]; exact (Array.getElem?_eq_some_iff.mp x1).1
          have ea : am_tv g (vr (some (1000001 + 2 * k))) = .ref (gV g k) := by show Value.ref (am_ro g _) = _; rw [am_roV]
          rw [List.map_cons, ea]
          exact W.alen hx hb (by rw [hr.2.2.1 _ hlt]; exact x1) x2 (by rw [x5, k3]; rfl) rfl rfl hd (kk H lsR locs hr hLr hS)
      · cases hst
    · cases hst
  case new i =>
    simp only [am_do] at hst
    simp only [am_rl, Bool.and_eq_true, decide_eq_true_eq] at hrl
    obtain ⟨rfl, hz⟩ := hrl
    split at hst
    · rename_i q
      cases hst
      have e1 : hk (newc h r1 0 (am_ftl.getD r1 []).length) = hk h + 1 := rfl
      have e2 : hs (newc h r1 0 (am_ftl.getD r1 []).length) = hs h + (am_ftl.getD r1 []).length := rfl
      obtain rfl : cells' = cells + 1 := by omega
      obtain rfl : slots' = slots + (am_ftl.getD r1 []).length := by omega
      exact am_newO C hr hS hd hz q hrc hrs fun H1 h1 h2 => kk H1 lsR locs h1 hLr h2
    · cases hst
  case newarray t =>
    simp only [am_do] at hst
    simp only [am_rl, Bool.and_eq_true, decide_eq_true_eq] at hrl
    obtain ⟨rfl, hz⟩ := hrl
    split at hst
    · rename_i x st2
      split at hst
      · rename_i q
        cases hst
        have e1 : hk (newc h r1 x.toNatClampNeg x.toNatClampNeg) = hk h + 1 := rfl
        have e2 : hs (newc h r1 x.toNatClampNeg x.toNatClampNeg) = hs h + x.toNatClampNeg := rfl
        obtain rfl : cells' = cells + 1 := by omega
        obtain rfl : slots' = slots + x.toNatClampNeg := by omega
        have ht : (t = .int ∧ r1 = 100) ∨ (t = .boolean ∧ r1 = 101) ∨ (t = .long ∧ r1 = 102) := by
          cases t <;> simp at hz <;> simp [hz]
        exact am_newA C hr hS hd ht q.1 q.2 hrc hrs fun H1 h1 h2 => kk H1 lsR locs h1 hLr h2
      · cases hst
    · cases hst
  case anewarray i =>
    simp only [am_do] at hst
    simp only [am_rl, Bool.and_eq_true, decide_eq_true_eq] at hrl
    obtain ⟨⟨rfl, hci⟩, hz⟩ := hrl
    split at hst
    · rename_i x st2
      split at hst
      · rename_i q
        cases hst
        have e1 : hk (newc h (110 + r1) x.toNatClampNeg x.toNatClampNeg) = hk h + 1 := rfl
        have e2 : hs (newc h (110 + r1) x.toNatClampNeg x.toNatClampNeg) = hs h + x.toNatClampNeg := rfl
        obtain rfl : cells' = cells + 1 := by omega
        obtain rfl : slots' = slots + x.toNatClampNeg := by omega
        exact am_newQ C hr hS hd hz hci q.1 q.2 hrc hrs fun H1 h1 h2 => kk H1 lsR locs h1 hLr h2
      · cases hst
    · cases hst
  case multianewarray i k =>
    simp only [am_do] at hst
    simp only [am_rl, Bool.and_eq_true, decide_eq_true_eq] at hrl
    obtain ⟨⟨rfl, rfl⟩, hz⟩ := hrl
    split at hst
    · rename_i y x st2
      split at hst
      · rename_i q
        cases hst
        have e1 : hk (newg h x.toNatClampNeg y.toNatClampNeg) = hk h + 1 + x.toNatClampNeg := rfl
        have e2 : hs (newg h x.toNatClampNeg y.toNatClampNeg) = hs h + x.toNatClampNeg + x.toNatClampNeg * y.toNatClampNeg := rfl
        obtain rfl : cells' = cells + 1 + x.toNatClampNeg := by omega
        obtain rfl : slots' = slots + x.toNatClampNeg + x.toNatClampNeg * y.toNatClampNeg := by omega
        exact am_newG C hr hS hd hz q.1 q.2.1 q.2.2 (by omega) (by omega) fun H1 locs1 h1 h2 => kk H1 lsR locs1 h1 hLr h2
      · cases hst
    · cases hst
  case ireturn =>
    simp only [am_do] at hst
    split at hst <;> (try cases hst) <;> split at hst <;> cases hst
  case lreturn =>
    simp only [am_do] at hst
    split at hst <;> (try cases hst) <;> split at hst <;> cases hst
  case areturn =>
    simp only [am_do] at hst
    split at hst <;> (try cases hst) <;> split at hst <;> cases hst
  case return_ =>
    simp only [am_do] at hst
    split at hst <;> (try cases hst) <;> split at hst <;> cases hst
  case invokestatic i =>
    simp only [am_do] at hst
    split at hst <;> cases hst
  case invokespecial i =>
    simp only [am_do] at hst
    split at hst <;> (try cases hst) <;> split at hst <;> cases hst
  case invokevirtual i =>
    simp only [am_do] at hst
    split at hst <;> (try cases hst) <;> split at hst <;> cases hst
end ONE2
