/-! the small machine's runs are the great one's -/
section CK
variable {l : Launch}
theorem am_metP (i n : Int32) (f : Value) (hf : f = .null ∨ ∃ a, f = .ref a) (h0 : 0 ≤ i) (h1 : i < n) : Met l am_yP (Cond.code am_yP prog_22_method_11_code 3 (some .int) :: am_T) (am_rm 0 0 0) (va_Pc [.int i, .int n, f] (fun _ => True)) (QcRead i) 0 0 (fun _ => False) := by
  refine Met.ofW (cc := prog_22_method_11_code) (maxL := 3) (ret := some .int) (by decide) rfl ?_
  intro p e s m args below meth c s₁ B hml hv
  obtain ⟨rfl, -⟩ := hv
  have hx := B.exec
  have hb := B.bytes
  have hr := B.returns
  have hlocks := B.notSynchronized
  have hl := lv_entry ([.int i, .int n, f]) (n := 3) (by rcases hf with rfl | ⟨a, rfl⟩ <;> exact Nat.le_of_ble_eq_true rfl)
  rw [lg_entry_eq]
  generalize (lg_sl ([.int i, .int n, f]) ++ List.replicate (3 - (lg_sl ([.int i, .int n, f])).length) Slot.unset).toArray = ls at hl ⊢
  have hl : lv_has ls 3 [(0, .int i), (1, .int n), (2, f)] := hl
  refine lv_iload_n hx hb am_dP0 rfl (lv_at hl 0 rfl) ?_
  refine lv_if_lt (tgt := 9) hx hb am_dP1 (by decide) (fun q => absurd q (Int32.not_lt.mpr h0)) (fun _ => ?_)
  refine lv_iload_n hx hb am_dP4 rfl (lv_at hl 0 rfl) ?_
  refine lv_iload_n hx hb am_dP5 rfl (lv_at hl 1 rfl) ?_
  refine lv_icmp_lt (tgt := 16) hx hb am_dP6 (by decide) (fun _ => ?_) (fun q => absurd h1 q)
  refine lv_iload_n hx hb am_dP16 rfl (lv_at hl 0 rfl) ?_
  exact W.iret hx hb hr (fun t ht hW => ⟨rfl, ht⟩) (fun _ h => by cases h) am_dP17
theorem am_metS {g : am_G} (i n : Int32) (h0 : 0 ≤ i) (h1 : i < n) (h : am_H) : Met l am_yS (Cond.code am_yS prog_18_method_155_code 2 none :: am_T) (am_rm 3 0 0) (am_Pre g h [.int i, .int n]) (am_Q g none h) 0 0 (am_Ad g) := by
  refine Met.ofW (cc := prog_18_method_155_code) (maxL := 2) (ret := none) (by decide) rfl ?_
  intro p e s m args below meth c s₁ B hml hv
  obtain ⟨rfl, hr9, hK⟩ := hv
  have hx := B.exec
  have hb := B.bytes
  have hr := B.returns
  have hlocks := B.notSynchronized
  have hts : ∀ w ∈ am_T, w.before #[Value.int i, Value.int n] s = true := fun w hw => atoms_spec (ws := Cond.code am_yS prog_18_method_155_code 2 none :: am_T) B.pre w (List.mem_cons_of_mem _ hw)
  have hown : s.vm.findClass "java/lang/String" = some m.cls := findClass_of_methodNamed B.named
  have hl := lv_entry ([.int i, .int n]) (n := 2) (Nat.le_of_ble_eq_true rfl)
  rw [lg_entry_eq]
  generalize (lg_sl ([.int i, .int n]) ++ List.replicate (2 - (lg_sl ([.int i, .int n])).length) Slot.unset).toArray = ls at hl ⊢
  have hl : lv_has ls 2 [(0, .int i), (1, .int n)] := hl
  refine lv_iload_n hx hb am_dS0 rfl (lv_at hl 0 rfl) ?_
  refine lv_iload_n hx hb am_dS1 rfl (lv_at hl 1 rfl) ?_
  have hzq : ∃ f : Value, (f = .null ∨ ∃ a, f = .ref a) ∧ va_Z "jdk/internal/util/Preconditions" "SIOOBE_FORMATTER" "Ljava/util/function/BiFunction;" f (am_Ad g) s (gH g) := by
    rcases hK.2.2.2.2.2.1.2 with z | ⟨t, z⟩
    · exact ⟨_, Or.inl rfl, z⟩
    · exact ⟨_, Or.inr ⟨t, rfl⟩, z⟩
  obtain ⟨f, hf, cf, kf, fi, fd, a, cell, z1, z2, z3, z4, z5, z6, z7, z8⟩ := hzq
  have hlt : a < gB g := by rw [← hK.2.2.2.2.2.2.2.2]; exact (Array.getElem?_eq_some_iff.mp z5).1
  refine W.gets hx hb hown (hts _ am_wS4) z1 z2 z3 z4 (by rw [hr9.2.2.1 a hlt]; exact z5) (fun e => by rw [e] at z6; cases z6) z7 rfl am_dS2 ?_
  refine W.callR (W.runS (n := 3) (As := [.int i, .int n, f]) (rest := []) (Ts := am_T) ⟨hx, hb, hml, hown, hts⟩ (am_metP i n f hf h0 h1) ⟨⟨rfl, rfl, by show 0 + 1 ≤ 3; omega, by show 8 + (3 + 11) + 64 * 0 ≤ 64 * 3; omega, fun w hw a' U hW => ?_, List.mem_cons_self, hts _ am_wP1, hts _ am_wP3, by decide +kernel, fun sig hs9 => ?_, hts _ am_wS5⟩, hts _ am_wP2⟩ ⟨fun _ _ _ _ q => q, fun U hU hW => ⟨rfl, trivial⟩⟩ rfl rfl (by exact hl.1) rfl (by show 2 * 0 + 0 ≤ 8; omega) am_dS5 ⟨Nat.le_refl _, Nat.le_refl _⟩) ?_
  · have hwT : w ∈ am_T := by
      rcases List.mem_cons.mp hw with rfl | h
      · exact am_wP1
      · exact h
    exact word_at hW (am_goodT w hwT).2 (hts w hwT)
  · have e1 : (parseMethodDescriptor am_yP.desc).map (fun d => d.parameters.length) = some 3 := by decide +kernel
    rw [hs9] at e1
    exact (Option.some.inj e1).symm
  · refine W.eq (g2 := F0 m 8 ls [.int i]) rfl ?_
    refine lv_pop hx hb am_dS8 rfl ?_
    exact W.vret hx hb hr (fun t ht hW => ⟨rfl, by rw [ht]; exact hr9, ⟨by rw [ht]; exact Nat.le_refl _, fun q _ _ => by rw [ht]⟩⟩) (fun _ h => by cases h) am_dS9
end CK
section MAIN
variable {g : am_G} {M : Nat} {p : Program} {l : Launch} {e : Env} {R : Room} {s : State} {m : MethodId} {args : Array Value} {below : List Frame} {meth : Method} {c : Code} {H : Heap} {locs : List Loc} {cells slots : Nat} {Q : State → Prop}
variable {pc : Nat} {lsR : Array Slot} {rest st0 : List Value} {h : am_H}
theorem am_copyS (hr : RelH g h H) {a b i k n : Nat} {H' : Heap} (ha : hkd h a = 100) (hb : hkd h b = 100) (z : H'.size = H.size) (oq : ∀ q, q ≠ am_ro g b → H'[q]? = H[q]?) (hc : H'[am_ro g b]? = some (arrV (gA g 100) (hln h b) (fun q => .int (va_cpy (hI h a) (hI h b) i k n q)))) : RelH g (cpyI h a i b k n) H' := by
  obtain ⟨r0, n1, n2⟩ := am_roO hr (n := b) (by omega)
  rw [r0] at oq hc
  refine hr.upd (n := b) (by omega) rfl rfl rfl (fun x hx => ⟨?_, rfl, rfl⟩) z oq ⟨fun q => ?_, fun q => ?_⟩
  · funext q
    show (if x = b ∧ _ then _ else _) = _
    rw [if_neg (fun z => hx z.1)]
  · have : hkd (cpyI h a i b k n) b = hkd h b := rfl
    rw [this] at q; omega
  · have e1 : hkd (cpyI h a i b k n) b = 100 := hb
    have e2 : hln (cpyI h a i b k n) b = hln h b := rfl
    rw [e1, e2]
    refine ⟨by unfold am_okA; omega, ?_⟩
    rw [hc]
    congr 2
    funext q
    unfold am_av
    rw [e1, if_neg (by omega), if_pos (by omega)]
    congr 1
    show va_cpy _ _ _ _ _ _ = (if b = b ∧ k ≤ q ∧ q < k + n then hI h a (i + (q - k)) else hI h b q)
    unfold va_cpy
    by_cases e : k ≤ q ∧ q < k + n
    · rw [if_pos e, if_pos ⟨rfl, e⟩]
    · rw [if_neg e, if_neg (fun z => e z.2)]
set_option maxHeartbeats 2000000 in
/-- a call that is no code of ours -/
theorem am_callP (C : am_Cc g M p s m args meth c) {ls st as st' : List am_V} {j d : Nat} {h1 : am_H} {r : Option am_V} (hst : am_step M pc ls st h = some (.inr (.inr (j, as, st')))) (hj : 9000 ≤ j) (hd3 : 3 ≤ d) (hpr : am_prim j as h = some (r, h1)) (hr : RelH g h H) (hLr : LR g ls lsR (am_ml M)) (hS : va_S (am_Ad g) s.heap H locs) (hfr : d + 1 ≤ R.frames) (hlo : 64 * (d + 1) ≤ R.locals) (hcs : cells ≤ R.cells ∧ slots ≤ R.slots)
    (kk : ∀ (H1 : Heap) (locs1 : List Loc), RelH g h1 H1 → va_S (am_Ad g) s.heap H1 locs1 → W p l e R s m args below meth c H1 locs1 cells slots Q (F0 m (pc + 3) lsR ((r.toList ++ st').map (am_tv g)))) : W p l e R s m args below meth c H locs cells slots Q (F0 m pc lsR (st.map (am_tv g))) := by
  unfold am_step at hst
  split at hst
  · cases hst
  rename_i ins len pw r1 r2 z cs hrow
  obtain ⟨hd, hrl⟩ := am_rowD hrow
  obtain ⟨hx, hb, hml, hown, hts, hK, hrt, hlk, hnm, hBs⟩ := id C
  have hsz : lsR.size = am_ml M := by obtain ⟨-, lv, q, -⟩ := hLr; exact q.1
  have hml2 : c.maxLocals = lsR.size := hml.trans hsz.symm
  rcases am_isCall hst with ⟨i, rfl⟩ | ⟨i, rfl⟩ | ⟨i, rfl⟩
  · simp only [am_do] at hst
    split at hst
    · rename_i q
      cases hst
      simp only [am_rl, Bool.and_eq_true, decide_eq_true_eq] at hrl
      obtain ⟨rfl, hrl⟩ := hrl
      have h8 := am_sum8 ((st.drop r2).map (am_tv g)) (by simpa using q.2)
      have hstk : st.map (am_tv g) = (st.take r2).map (am_tv g) ++ (st.drop r2).map (am_tv g) := by
        rw [← List.map_append, List.take_append_drop]
      rw [hstk]
      by_cases e9 : j = 9999
      · subst e9
        simp [am_prim] at hpr
      rw [if_neg e9] at hrl
      by_cases e2 : j = 9002
      · subst e2
        simp only [if_pos, Bool.and_eq_true, decide_eq_true_eq] at hrl
        obtain ⟨rfl, hw⟩ := hrl
        unfold am_prim at hpr
        rw [if_neg (by omega), if_pos rfl] at hpr
        split at hpr
        · rename_i a i0 b k0 n0 has
          split at hpr
          · rename_i hq
            cases hpr
            obtain ⟨q1, q2, q3, q4, q5, q6, q7⟩ := hq
            have hst5 : st.take 5 = [vi n0, vi k0, vr (some b), vi i0, vr (some a)] := by
              have := congrArg List.reverse has
              rw [List.reverse_reverse] at this
              exact this
            rw [hst5]
            have hKv : va_K (gC g, gI g) am_cl [(gA g 100, .int)] s := ⟨hK.1, fun k q hq => by
              match k, hq with
              | 0, hq =>
                cases hq
                have h2 := hK.2.1 100 (by unfold am_okA; omega)
                exact ⟨h2.1, h2.2⟩⟩
            obtain ⟨a0, a1, -, -, -⟩ := am_arrO C hr (n := a) (by omega) (by omega)
            obtain ⟨b0, b1, -, -, -⟩ := am_arrO C hr (n := b) (by omega) (by omega)
            have eA : ∀ x, hkd h x = 100 → am_av g h x = fun q => .int (hI h x q) := by
              intro x hx9
              funext q
              unfold am_av
              rw [hx9, if_neg (by omega), if_pos (by omega)]
            rw [q1, eA a q1] at a1
            rw [q2, eA b q2] at b1
            have nn : ∀ z : Int32, 0 ≤ z → ¬ z < 0 := fun z hz => Int32.not_lt.mpr hz
            intro T hT X
            obtain ⟨-, k0', hk0', cm0, hkk0⟩ := (hKv.2 0 _ rfl).1 (hln h a) (fun q => .int (hI h a q))
            obtain ⟨-, k1', hk1', cm1, hkk1⟩ := (hKv.2 0 _ rfl).1 (hln h b) (fun q => .int (hI h b q))
            have nz : ∀ z : Int32, ¬ z < 0 → z.toInt = (z.toNatClampNeg : Int) := by
              intro z hz
              have hz0 : (0 : Int) ≤ z.toInt := by
                have := Int32.not_lt.mp hz
                simpa using Int32.le_iff_toInt_le.mp this
              show z.toInt = ((z.toInt.toNat : Nat) : Int)
              omega
            obtain ⟨vm', X', step⟩ := X.arraycopy hx hown (hts _ (am_in hw rfl)) (hts _ am_wC1) (hts _ am_wC2) (hts _ am_wC3) (src := am_ro g a) (dst := am_ro g b) (srcPos := i0) (destPos := k0) (n := n0) (by rw [hT]; exact a1) (by rw [hT]; exact b1)
              (fun _ h => by cases h) (fun _ h => by cases h) (fun h => by cases h) (fun h => by cases h) hk0' hk1' hkk0 hkk1 (by simp [refKind]) (nn _ q3) (nn _ q4) (nn _ q5)
              (by rw [nz i0 (nn _ q3), nz n0 (nn _ q5), arrV_size]; omega)
              (by rw [nz k0 (nn _ q4), nz n0 (nn _ q5), arrV_size]; omega)
              (fun vm₁ _ q hq => by
                have e : (arrV (gA g 100) (hln h a) (fun q => .int (hI h a q))).slots.getD (i0.toNatClampNeg + q) .null = .int (hI h a (i0.toNatClampNeg + q)) := by
                  rw [Array.getD_eq_getD_getElem?, arrV_read _ _ (by omega)]
                  rfl
                refine ⟨?_, ?_⟩
                · rw [e]; rfl
                · rw [e]; exact trivial)
              (g := F0 m pc lsR (.int n0 :: .int k0 :: .ref (am_ro g b) :: .int i0 :: .ref (am_ro g a) :: (st.drop 5).map (am_tv g))) rfl (by rw [hml2]) (rest := (st.drop 5).map (am_tv g)) rfl (by rw [hb]; exact hd) (by omega) (by
                have e7 : nativeFrameWords "java/lang/System" "arraycopy" 5 + 11 ≤ 100 := by decide +kernel
                show 2 * 0 + _ + _ ≤ _
                omega)
            have e1 : copied (arrV (gA g 100) (hln h a) (fun q => .int (hI h a q))) (arrV (gA g 100) (hln h b) (fun q => .int (hI h b q))) i0 k0 n0 = arrV (gA g 100) (hln h b) (fun q => .int (va_cpy (hI h a) (hI h b) i0.toNatClampNeg k0.toNatClampNeg n0.toNatClampNeg q)) := va_copied (fun z => .int z) _ _ (hI h a) (hI h b) q6
            rw [e1] at X' step
            have hl9 : am_ro g b < H.size := (Array.getElem?_eq_some_iff.mp b1).1
            have hheap : ((T.setVm vm').setCell (am_ro g b) (arrV (gA g 100) (hln h b) (fun q => .int (va_cpy (hI h a) (hI h b) i0.toNatClampNeg k0.toNatClampNeg n0.toNatClampNeg q)))).heap = H.setIfInBounds (am_ro g b) (arrV (gA g 100) (hln h b) (fun q => .int (va_cpy (hI h a) (hI h b) i0.toNatClampNeg k0.toNatClampNeg n0.toNatClampNeg q))) := by rw [← hT]; rfl
            have oq : ∀ q : Nat, q ≠ am_ro g b → (H.setIfInBounds (am_ro g b) (arrV (gA g 100) (hln h b) (fun q => .int (va_cpy (hI h a) (hI h b) i0.toNatClampNeg k0.toNatClampNeg n0.toNatClampNeg q))))[q]? = H[q]? := fun q hq => by simp [Array.getElem?_setIfInBounds, Ne.symm hq]
            have hge : gB g ≤ am_ro g b := by rw [b0]; exact Nat.le_add_right _ _
            obtain ⟨t, a1', b1'⟩ := kk _ _ (am_copyS hr q1 q2 (by simp) oq (by simp [Array.getElem?_setIfInBounds, hl9])) ⟨by simp; exact hS.1, fun q g1 g2 => by
                rw [oq q (fun e => g2 (by rw [e]; exact hge))]
                exact hS.2.1 q g1 g2, fun q hq => by
                rcases List.mem_append.mp hq with h | h
                · exact hS.2.2 q h
                · obtain ⟨z, -, hz⟩ := List.mem_map.mp h
                  rw [← hz]
                  exact hge⟩ _ hheap X'
            exact ⟨t, step t a1', b1'⟩
          · cases hpr
        · cases hpr
      rw [if_neg e2] at hrl
      by_cases e3 : j = 9003
      · subst e3
        simp only [if_pos, Bool.and_eq_true, decide_eq_true_eq] at hrl
        obtain ⟨rfl, hw⟩ := hrl
        unfold am_prim at hpr
        rw [if_neg (by omega), if_neg (by omega), if_pos rfl] at hpr
        split at hpr
        · rename_i i0 n0 has
          split at hpr
          · rename_i hq
            cases hpr
            have hst5 : st.take 2 = [vi n0, vi i0] := by
              have := congrArg List.reverse has
              rw [List.reverse_reverse] at this
              exact this
            rw [hst5]
            refine am_callR (va_runS (n := 2) (Ts := am_T) (As := [.int i0, .int n0]) (rest := (st.drop 2).map (am_tv g)) (mc := 0) (ms := 0) (bytes := prog_18_method_155_code) (maxL := 2) (ret := none) ⟨hx, hb, hml, hown, hts⟩ (am_metS (g := g) i0 n0 hq.1 hq.2 h) ⟨⟨rfl, rfl, by show 3 + 1 ≤ _; omega, by show 8 + (2 + 11) + 64 * 3 ≤ _; omega, fun w hw9 a' U hW => ?_, List.mem_cons_self, hts _ am_wS1, hts _ am_wS3, by decide +kernel, fun sig hs9 => ?_, hts _ (am_in hw rfl)⟩, hts _ am_wS2⟩ ⟨am_Pre_blind, fun U hU hW => ⟨rfl, by rw [hU]; exact hr, hK.warm hW⟩⟩ rfl rfl hsz rfl (lv_room h8) hd hcs) hS kk
            · have hwT : w ∈ am_T := by
                rcases List.mem_cons.mp hw9 with rfl | h
                · exact am_wS1
                · exact h
              exact word_at hW (am_goodT w hwT).2 (hts w hwT)
            · have e1 : (parseMethodDescriptor am_yS.desc).map (fun d => d.parameters.length) = some 2 := by decide +kernel
              rw [hs9] at e1
              exact (Option.some.inj e1).symm
          · cases hpr
        · cases hpr
      rw [if_neg e3] at hrl
      by_cases e4 : j = 9004
      · subst e4
        simp only [if_pos, Bool.and_eq_true, decide_eq_true_eq] at hrl
        obtain ⟨rfl, hw⟩ := hrl
        unfold am_prim at hpr
        rw [if_neg (by omega), if_neg (by omega), if_neg (by omega), if_pos rfl] at hpr
        split at hpr
        · rename_i x y has
          cases hpr
          have hst5 : st.take 2 = [vi y, vi x] := by
            have := congrArg List.reverse has
            rw [List.reverse_reverse] at this
            exact this
          rw [hst5]
          exact va_mmax (rest := (st.drop 2).map (am_tv g)) hx hb hml2 hown (hts _ (am_in hw rfl)) (hts _ am_wM_max) (hts _ am_wM0) (hts _ am_wMc_max) (by omega) (by omega) hcs.1 hcs.2 hd (kk H locs hr hS)
        · cases hpr
      rw [if_neg e4] at hrl
      by_cases e5 : j = 9005
      · subst e5
        simp only [if_pos, Bool.and_eq_true, decide_eq_true_eq] at hrl
        obtain ⟨rfl, hw⟩ := hrl
        unfold am_prim at hpr
        rw [if_neg (by omega), if_neg (by omega), if_neg (by omega), if_neg (by omega), if_pos rfl] at hpr
        split at hpr
        · rename_i x y has
          cases hpr
          have hst5 : st.take 2 = [vi y, vi x] := by
            have := congrArg List.reverse has
            rw [List.reverse_reverse] at this
            exact this
          rw [hst5]
          exact va_mmin (rest := (st.drop 2).map (am_tv g)) hx hb hml2 hown (hts _ (am_in hw rfl)) (hts _ am_wM_min) (hts _ am_wM0) (hts _ am_wMc_min) (by omega) (by omega) hcs.1 hcs.2 hd (kk H locs hr hS)
        · cases hpr
      rw [if_neg e5] at hrl
      by_cases e6 : j = 9006
      · subst e6
        simp only [if_pos, Bool.and_eq_true, decide_eq_true_eq] at hrl
        obtain ⟨rfl, hw⟩ := hrl
        unfold am_prim at hpr
        rw [if_neg (by omega), if_neg (by omega), if_neg (by omega), if_neg (by omega), if_neg (by omega), if_pos rfl] at hpr
        split at hpr
        · rename_i x has
          cases hpr
          have hst5 : st.take 1 = [vi x] := by
            have := congrArg List.reverse has
            rw [List.reverse_reverse] at this
            exact this
          rw [hst5]
          exact va_mabs (rest := (st.drop 1).map (am_tv g)) hx hb hml2 hown (hts _ (am_in hw rfl)) (hts _ am_wM_abs) (hts _ am_wM0) (hts _ am_wMc_abs) (by omega) (by omega) hcs.1 hcs.2 hd (kk H locs hr hS)
        · cases hpr
      rw [if_neg e6] at hrl
      simp only [Bool.and_eq_true, decide_eq_true_eq] at hrl
      obtain ⟨⟨⟨hjj, -⟩, -⟩, -⟩ := hrl
      have : j < 229 := hjj.2
      omega
    · cases hst
  · simp only [am_do] at hst
    split at hst
    · rename_i n hn
      split at hst
      · rename_i q
        cases hst
        simp only [am_rl, Bool.and_eq_true, decide_eq_true_eq] at hrl
        obtain ⟨rfl, hrl⟩ := hrl
        by_cases e9 : j = 9999
        · subst e9
          simp [am_prim] at hpr
        rw [if_neg e9] at hrl
        by_cases e1 : j = 9001
        · subst e1
          simp only [if_pos, Bool.and_eq_true, decide_eq_true_eq] at hrl
          obtain ⟨rfl, hw⟩ := hrl
          unfold am_prim at hpr
          rw [if_pos rfl] at hpr
          cases hpr
          obtain ⟨hlt, hget⟩ := List.getElem?_eq_some_iff.mp hn
          have hstk : st.map (am_tv g) = .ref (am_ro g n) :: (st.drop 1).map (am_tv g) := by
            match st, hn with
            | a :: st2, hn =>
              cases hn
              rfl
          have h8 := am_sum8 ((st.drop 1).map (am_tv g)) (by simpa using q)
          rw [hstk]
          refine W.objInit hx hb hown (hts _ (am_in hw rfl)) (hts _ am_wO) (hts _ am_wO2) rfl (by rw [hml2]) rfl hd (by omega) (by show 2 * 0 + _ + 12 ≤ _; omega) ?_
          exact kk H locs hr hS
        rw [if_neg e1] at hrl
        simp only [Bool.and_eq_true, decide_eq_true_eq] at hrl
        obtain ⟨⟨⟨⟨⟨hjj, -⟩, -⟩, -⟩, -⟩, -⟩ := hrl
        have : j < 229 := hjj.2
        omega
      · cases hst
    · cases hst
  · simp only [am_do] at hst
    split at hst
    · rename_i n hn
      split at hst
      · rename_i q
        cases hst
        simp only [am_rl, Bool.and_eq_true, decide_eq_true_eq] at hrl
        obtain ⟨rfl, hrl⟩ := hrl
        by_cases e9 : j = 9999
        · subst e9
          simp [am_prim] at hpr
        rw [if_neg e9] at hrl
        simp only [Bool.and_eq_true, decide_eq_true_eq] at hrl
        obtain ⟨⟨⟨⟨⟨hjj, -⟩, -⟩, -⟩, -⟩, -⟩ := hrl
        have : j < 229 := hjj.2
        omega
      · cases hst
    · cases hst
theorem am_primH {j : Nat} {as : List am_V} {h1 : am_H} {r : Option am_V} (hpr : am_prim j as h = some (r, h1)) : hk h1 = hk h ∧ hs h1 = hs h := by
  unfold am_prim at hpr
  (repeat' split at hpr) <;> cases hpr <;> exact ⟨rfl, rfl⟩
theorem am_grow : ∀ (n d M pc : Nat) (ls st : List am_V) (h : am_H) (r : Option am_V) (h1 : am_H), am_run n d M pc ls st h = some (r, h1) → hk h ≤ hk h1 ∧ hs h ≤ hs h1 := by
  intro n
  induction n with
  | zero => intro d M pc ls st h r h1 hx; simp [am_run] at hx
  | succ n ih =>
    intro d M pc ls st h r h1 hx
    have stp : ∀ a, am_step M pc ls st h = some a → ∃ ins len r1 r2 z cs, am_do M ins len r1 r2 z cs pc ls st h = some a := by
      intro a ha
      unfold am_step at ha
      split at ha
      · cases ha
      · exact ⟨_, _, _, _, _, _, ha⟩
    rcases am_ways M pc ls st h with q | ⟨pc', ls', st', h', q⟩ | ⟨x, q⟩ | ⟨j, as, st', q⟩
    · rw [am_run_none q] at hx; cases hx
    · rw [am_run_go q] at hx
      obtain ⟨_, _, _, _, _, _, h9⟩ := stp _ q
      have a1 := am_grow1 h9
      have a2 := ih _ _ _ _ _ _ _ _ hx
      omega
    · rw [am_run_ret q] at hx
      cases hx
      obtain ⟨_, _, _, _, _, _, h9⟩ := stp _ q
      have := (am_isRet h9).1
      rw [this]
      exact ⟨Nat.le_refl _, Nat.le_refl _⟩
    · cases d with
      | zero => rw [am_run_call0 q] at hx; cases hx
      | succ d =>
        rw [am_run_call q] at hx
        obtain ⟨⟨r2, h2⟩, e1, e2⟩ := Option.bind_eq_some_iff.mp hx
        have a2 := ih _ _ _ _ _ _ _ _ e2
        have a1 : hk h ≤ hk h2 ∧ hs h ≤ hs h2 := by
          by_cases hj : 9000 ≤ j
          · rw [if_pos hj] at e1
            split at e1
            · have := am_primH e1
              omega
            · cases e1
          · rw [if_neg hj] at e1
            split at e1
            · exact ih _ _ _ _ _ _ _ _ e1
            · cases e1
        simp only at a2
        omega
/-- where a method ends -/
def am_end (M pc : Nat) (r : Option am_V) : Prop := ∃ ins len pw r1 r2 z cs, am_code M pc = some (ins, len, pw, r1, r2, z, cs) ∧ ((ins = .ireturn ∧ ∃ x, r = some (vi x) ∧ am_nar (am_rt M) x = true) ∨ (ins = .lreturn ∧ am_rt M = some .long ∧ ∃ x, r = some (vl x)) ∨ (ins = .areturn ∧ (∃ C, am_rt M = some (.object C)) ∧ ∃ x, r = some (vr x)) ∨ (ins = .return_ ∧ am_rt M = none ∧ r = none))
theorem am_narrow {t : Option FieldType} {x : Int32} (h : am_nar t x = true) : ∃ ty, t = some ty ∧ narrow ty (.int x) = .int x := by
  unfold am_nar at h
  split at h
  · exact ⟨_, rfl, rfl⟩
  · rw [decide_eq_true_eq] at h
    rcases h with rfl | rfl <;> exact ⟨_, rfl, rfl⟩
  · rw [decide_eq_true_eq] at h
    obtain ⟨j, hj, rfl⟩ := nI_of (Int32.not_lt.mpr h.1)
    have h2 : j < 65536 := by
      rcases Nat.lt_or_ge j 65536 with q | q
      · exact q
      · exact absurd h.2 (nI_nlt (b := 65536) q hj)
    exact ⟨_, rfl, (pk_charN h2).1⟩
  · rw [decide_eq_true_eq] at h
    exact ⟨_, rfl, by rw [narrow_byte, h]⟩
  · cases h
theorem am_sim : ∀ (n d M pc : Nat) (ls st : List am_V) (h : am_H) (r : Option am_V) (h1 : am_H), am_run n d M pc ls st h = some (r, h1) →
    ∀ {p : Program} {e : Env} {R : Room} {s : State} {m : MethodId} {args : Array Value} {below : List Frame} {meth : Method} {c : Code} {H : Heap} {locs : List Loc} {cells slots mc ms : Nat} {Q : State → Prop} {lsR : Array Slot},
    am_Cc g M p s m args meth c → RelH g h H → LR g ls lsR (am_ml M) → va_S (am_Ad g) s.heap H locs → d ≤ R.frames → 64 * d ≤ R.locals → mc + hk h = cells + hk h1 → ms + hs h = slots + hs h1 → mc ≤ R.cells → ms ≤ R.slots →
    (∀ (H' : Heap) (locs' : List Loc) (pc' : Nat) (lsR' : Array Slot), am_end M pc' r → RelH g h1 H' → va_S (am_Ad g) s.heap H' locs' → W p l e R s m args below meth c H' locs' mc ms Q (F0 m pc' lsR' (r.toList.map (am_tv g)))) →
    W p l e R s m args below meth c H locs cells slots Q (F0 m pc lsR (st.map (am_tv g))) := by
  intro n
  induction n with
  | zero => intro d M pc ls st h r h1 hx; simp [am_run] at hx
  | succ n ih =>
    intro d M pc ls st h r h1 hx p e R s m args below meth c H locs cells slots mc ms Q lsR C hr hLr hS hfr hlo hmc hms hrc hrs kk
    rcases am_ways M pc ls st h with q | ⟨pc', ls', st', h', q⟩ | ⟨x, q⟩ | ⟨j, as, st', q⟩
    · rw [am_run_none q] at hx; cases hx
    · rw [am_run_go q] at hx
      have g2 := am_grow _ _ _ _ _ _ _ _ _ hx
      have g1 : hk h ≤ hk h' ∧ hs h ≤ hs h' := by
        have q2 := q
        unfold am_step at q2
        split at q2
        · cases q2
        · exact am_grow1 q2
      refine am_one C q hr hLr hS (cells' := cells + (hk h' - hk h)) (slots' := slots + (hs h' - hs h)) (by omega) (by omega) (by omega) (by omega) fun H' lsR' locs' a1 a2 a3 => ?_
      exact ih _ _ _ _ _ _ _ _ hx C a1 a2 a3 hfr hlo (by omega) (by omega) hrc hrs kk
    · rw [am_run_ret q] at hx
      cases hx
      unfold am_step at q
      split at q
      · cases q
      rename_i ins len pw r1 r2 z cs hrow
      obtain ⟨rfl, rfl, b3⟩ := am_isRet q
      obtain rfl : mc = cells := by omega
      obtain rfl : ms = slots := by omega
      exact kk H locs pc lsR ⟨_, _, _, _, _, _, _, hrow, b3⟩ hr hS
    · cases d with
      | zero => rw [am_run_call0 q] at hx; cases hx
      | succ d =>
        rw [am_run_call q] at hx
        obtain ⟨⟨r2, h2⟩, e1, e2⟩ := Option.bind_eq_some_iff.mp hx
        simp only at e2
        have g2 := am_grow _ _ _ _ _ _ _ _ _ e2
        by_cases hj : 9000 ≤ j
        · rw [if_pos hj] at e1
          split at e1
          · rename_i hd3
            have g1 := am_primH e1
            refine am_callP C q hj hd3 e1 hr hLr hS hfr hlo (by omega) fun H' locs' a1 a2 => ?_
            exact ih _ _ _ _ _ _ _ _ e2 C a1 hLr a2 hfr hlo (by omega) (by omega) hrc hrs kk
          · cases e1
        · rw [if_neg hj] at e1
          split at e1
          · rename_i hlen
            have g1 := am_grow _ _ _ _ _ _ _ _ _ e1
            refine am_callM C (d := d) (mc := hk h2 - hk h) (ms := hs h2 - hs h) (h1 := h2) (r := r2) q (by omega) hr hLr hS hfr hlo (by omega) (fun hj1 hj2 => am_mkMet hj1 hj2 hlen fun p e s m args below meth c lsR C2 hr2 hL2 => ?_) fun H' locs' a1 a2 => ?_
            · refine ih _ _ _ _ _ _ _ _ e1 C2 hr2 hL2 va_S.rf (Nat.le_refl _) (Nat.le_refl _) (by omega) (by omega) (show hk h2 - hk h ≤ hk h2 - hk h from Nat.le_refl _) (show hs h2 - hs h ≤ hs h2 - hs h from Nat.le_refl _) fun H' locs' pc' lsR' en a1 a2 => ?_
              obtain ⟨hx9, hb9, hml9, hown9, hts9, hK9, hrt9, hlk9, hnm9, hBs9⟩ := C2
              obtain ⟨ins, len, pw, r1, r3, z, cs, hrow, hen⟩ := en
              obtain ⟨hd9, hrl9⟩ := am_rowD hrow
              rcases hen with ⟨rfl, x, rfl, hn⟩ | ⟨rfl, hn, x, rfl⟩ | ⟨rfl, ⟨Cn, hn⟩, x, rfl⟩ | ⟨rfl, hn, rfl⟩
              · have hl1 : len = 1 := by simpa [am_rl] using hrl9
                subst hl1
                obtain ⟨ty, t1, t2⟩ := am_narrow hn
                exact W.zret hx9 hb9 (hrt9.trans t1) t2 (fun t ht hW => ⟨rfl, by rw [ht]; exact a1, a2.F ht⟩) a2.2.2 hd9 hlk9
              · have hl1 : len = 1 := by simpa [am_rl] using hrl9
                subst hl1
                exact W.lret hx9 hb9 (hrt9.trans hn) (fun t ht hW => ⟨rfl, by rw [ht]; exact a1, a2.F ht⟩) a2.2.2 hd9 hlk9
              · have hl1 : len = 1 := by simpa [am_rl] using hrl9
                subst hl1
                exact W.aret hx9 hb9 (hrt9.trans hn) (Or.inl ⟨_, rfl⟩) (by cases x <;> first | exact Or.inl rfl | exact Or.inr ⟨_, rfl⟩) (fun t ht hW => ⟨rfl, by rw [ht]; exact a1, a2.F ht⟩) a2.2.2 hd9 hlk9
              · have hl1 : len = 1 := by simpa [am_rl] using hrl9
                subst hl1
                exact W.vret hx9 hb9 (hrt9.trans hn) (fun t ht hW => ⟨rfl, by rw [ht]; exact a1, a2.F ht⟩) a2.2.2 hd9 hlk9
            · exact ih _ _ _ _ _ _ _ _ e2 C a1 hLr a2 hfr hlo (by omega) (by omega) hrc hrs kk
          · cases e1
end MAIN
