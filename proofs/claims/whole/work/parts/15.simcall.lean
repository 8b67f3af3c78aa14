/-! calls -/
def am_Q (g : am_G) (r : Option am_V) (h' : am_H) : Array Value → State → Outcome → State → Prop := fun _ st oc t => oc = .returned (r.map (am_tv g)) ∧ RelH g h' t.heap ∧ va_F (am_Ad g) st t
def am_rm (d mc ms : Nat) : Room := { frames := d, cells := mc, slots := ms, locals := 64 * d }
def am_Pre (g : am_G) (h : am_H) (av : List Value) : Array Value → State → Prop := va_Pc av (fun U => RelH g h U.heap ∧ KS g U)
theorem am_Pre_blind {g : am_G} {h : am_H} {av : List Value} : FrameBlind (am_Pre g h av) := fun _ _ _ _ q => ⟨q.1, q.2.1, q.2.2.same rfl⟩
theorem am_sum8 (l : List Value) (h : l.length ≤ 4) : (l.map fun v => v.category).sum ≤ 8 := by
  have key : ∀ l : List Value, (l.map fun v => v.category).sum ≤ 2 * l.length := by
    intro l
    induction l with
    | nil => simp
    | cons a l ih =>
      simp only [List.map_cons, List.sum_cons, List.length_cons]
      rcases lv_cat a with q | q <;> omega
  have := key l
  omega
/-- which instructions call, which end -/
theorem am_isCall {M : Nat} {ins : Instr} {len r1 r2 : Nat} {z : Int} {cs : List (Int × Nat)} {pc : Nat} {ls st : List am_V} {h : am_H} {x : Nat × List am_V × List am_V} (hq : am_do M ins len r1 r2 z cs pc ls st h = some (.inr (.inr x))) : (∃ i, ins = .invokestatic i) ∨ (∃ i, ins = .invokespecial i) ∨ ∃ i, ins = .invokevirtual i := by
  unfold am_do at hq
  split at hq
  all_goals first
    | exact Or.inl ⟨_, rfl⟩
    | exact Or.inr (Or.inl ⟨_, rfl⟩)
    | exact Or.inr (Or.inr ⟨_, rfl⟩)
    | (exfalso; (repeat' split at hq) <;> cases hq)
theorem am_isRet {M : Nat} {ins : Instr} {len r1 r2 : Nat} {z : Int} {cs : List (Int × Nat)} {pc : Nat} {ls st : List am_V} {h h1 : am_H} {r : Option am_V} (hq : am_do M ins len r1 r2 z cs pc ls st h = some (.inr (.inl (r, h1)))) : h1 = h ∧ st = r.toList ∧ ((ins = .ireturn ∧ ∃ x, r = some (vi x) ∧ am_nar (am_rt M) x = true) ∨ (ins = .lreturn ∧ am_rt M = some .long ∧ ∃ x, r = some (vl x)) ∨ (ins = .areturn ∧ (∃ C, am_rt M = some (.object C)) ∧ ∃ x, r = some (vr x)) ∨ (ins = .return_ ∧ am_rt M = none ∧ r = none)) := by
  unfold am_do at hq
  split at hq
  all_goals first
    | (exfalso; (repeat' split at hq) <;> cases hq; done)
    | skip
  · split at hq
    · split at hq
      · rename_i q
        cases hq
        exact ⟨rfl, rfl, Or.inl ⟨rfl, _, rfl, q⟩⟩
      · cases hq
    · cases hq
  · split at hq
    · split at hq
      · rename_i q
        cases hq
        exact ⟨rfl, rfl, Or.inr (Or.inl ⟨rfl, q, _, rfl⟩)⟩
      · cases hq
    · cases hq
  · split at hq
    · split at hq
      · rename_i C q
        cases hq
        exact ⟨rfl, rfl, Or.inr (Or.inr (Or.inl ⟨rfl, ⟨_, q⟩, _, rfl⟩))⟩
      · cases hq
    · cases hq
  · split at hq
    · split at hq
      · rename_i q
        cases hq
        exact ⟨rfl, rfl, Or.inr (Or.inr (Or.inr ⟨rfl, q, rfl⟩))⟩
      · cases hq
    · cases hq
/-- the heap never shrinks -/
theorem am_grow1 {M : Nat} {ins : Instr} {len r1 r2 : Nat} {z : Int} {cs : List (Int × Nat)} {pc pc' : Nat} {ls st ls' st' : List am_V} {h h' : am_H} (hq : am_do M ins len r1 r2 z cs pc ls st h = some (.inl (pc', ls', st', h'))) : hk h ≤ hk h' ∧ hs h ≤ hs h' := by
  unfold am_do at hq
  split at hq
  all_goals ((repeat' split at hq) <;> cases hq)
  all_goals first
    | exact ⟨Nat.le_refl (hk h), Nat.le_refl (hs h)⟩
    | exact ⟨Nat.le_succ (hk h), Nat.le_add_right (hs h) _⟩
    | exact ⟨Nat.le_trans (Nat.le_succ (hk h)) (Nat.le_add_right _ _), Nat.le_trans (Nat.le_add_right (hs h) _) (Nat.le_add_right _ _)⟩
section CALL
variable {g : am_G} {M : Nat} {p : Program} {l : Launch} {e : Env} {R : Room} {s : State} {m : MethodId} {args : Array Value} {below : List Frame} {meth : Method} {c : Code} {H : Heap} {locs : List Loc} {cells slots : Nat} {Q : State → Prop}
variable {pc : Nat} {lsR : Array Slot} {rest st0 : List Value} {h : am_H}
theorem am_callR {r : Option am_V} {h1 : am_H} {a : Array Value} {mc ms : Nat} (hr : va_Run p l e R s m args below meth c H locs cells slots mc ms (F0 m pc lsR st0) rest (am_Q g r h1 a) (am_Ad g)) (hS : va_S (am_Ad g) s.heap H locs)
    (kk : ∀ (H1 : Heap) (locs1 : List Loc), RelH g h1 H1 → va_S (am_Ad g) s.heap H1 locs1 → W p l e R s m args below meth c H1 locs1 (cells + mc) (slots + ms) Q (F0 m (pc + 3) lsR ((r.map (am_tv g)).toList ++ rest))) : W p l e R s m args below meth c H locs cells slots Q (F0 m pc lsR st0) := by
  intro T hT X
  obtain ⟨v, st₀, t, T', L, h0, X', hL9, e1, e2, ⟨hv, hp, hz, hk9⟩, st⟩ := hr T hT X
  have hv2 : v = r.map (am_tv g) := Outcome.returned.inj hv
  subst hv2
  rw [h0] at hz hk9
  obtain ⟨t2, a1, b1⟩ := kk T'.heap (locs ++ L) (by rw [e1]; exact hp) ⟨Nat.le_trans hS.1 (by rw [e1]; exact hz), fun q h1 h2 => by rw [e1, hk9 q (Nat.lt_of_lt_of_le h1 hS.1) h2]; exact hS.2.1 q h1 h2, fun q hq => by
      rcases List.mem_append.mp hq with h | h
      · exact hS.2.2 q h
      · exact hL9 q h⟩ T' rfl X'
  exact ⟨t2, st t2 a1, b1⟩
/-- a method's contract out of a walk of its body -/
theorem am_mkMet {j d mc ms : Nat} {as : List am_V} {h1 : am_H} {r : Option am_V} (hj1 : 1 ≤ j) (hj2 : j < am_nm) (hlen : (am_lay as).length ≤ am_ml j)
    (body : ∀ (p : Program) (e : Env) (s : State) (m : MethodId) (args : Array Value) (below : List Frame) (meth : Method) (c : Code) (lsR : Array Slot), am_Cc g j p s m args meth c → RelH g h s.heap → LR g (am_ent (am_ml j) as) lsR (am_ml j) →
      W p l e (am_rm d mc ms) s m args below meth c s.heap [] 0 0 (MQ below (am_Q g r h1) args s mc ms (am_Ad g)) (F0 m 0 lsR [])) :
    Met l (am_y j) (am_wsj j) (am_rm d mc ms) (am_Pre g h (as.map (am_tv g))) (am_Q g r h1) mc ms (am_Ad g) := by
  obtain ⟨o1, o2, o3, o4, o5, o6, o7, o8, o9, o10⟩ := am_mOK hj1 hj2
  refine Met.ofW (cc := am_b j) (maxL := am_ml j) (ret := am_rt j) o6 rfl ?_
  intro p e s m args below meth c s₁ B hml hv
  obtain ⟨rfl, hr, hK⟩ := hv
  have hts := atoms_spec (ws := am_wsj j) B.pre
  have hC : am_Cc g j p s m (as.map (am_tv g)).toArray meth c := ⟨B.exec, B.bytes, hml, findClass_of_methodNamed B.named, fun w hw => hts w (List.mem_cons_of_mem _ hw), hK, B.returns, B.notSynchronized, fun e => (name_of_methodNamed B.named B.method).1.trans e, by rw [hr.1]; exact Nat.le_add_right _ _⟩
  rw [lg_entry_eq]
  exact body p e s m _ below meth c _ hC hr (LR.entry hlen)
/-- a call of a method of ours -/
theorem am_callM (C : am_Cc g M p s m args meth c) {ls st as st' : List am_V} {j d mc ms : Nat} {h1 : am_H} {r : Option am_V} (hst : am_step M pc ls st h = some (.inr (.inr (j, as, st')))) (hj : j < 9000) (hr : RelH g h H) (hLr : LR g ls lsR (am_ml M)) (hS : va_S (am_Ad g) s.heap H locs) (hfr : d + 1 ≤ R.frames) (hlo : 64 * (d + 1) ≤ R.locals) (hcs : cells + mc ≤ R.cells ∧ slots + ms ≤ R.slots)
    (hM : 1 ≤ j → j < am_nm → Met l (am_y j) (am_wsj j) (am_rm d mc ms) (am_Pre g h (as.map (am_tv g))) (am_Q g r h1) mc ms (am_Ad g))
    (kk : ∀ (H1 : Heap) (locs1 : List Loc), RelH g h1 H1 → va_S (am_Ad g) s.heap H1 locs1 → W p l e R s m args below meth c H1 locs1 (cells + mc) (slots + ms) Q (F0 m (pc + 3) lsR ((r.toList ++ st').map (am_tv g)))) : W p l e R s m args below meth c H locs cells slots Q (F0 m pc lsR (st.map (am_tv g))) := by
  have hC := C
  unfold am_step at hst
  split at hst
  · cases hst
  rename_i ins len pw r1 r2 z cs hrow
  obtain ⟨hd, hrl⟩ := am_rowD hrow
  obtain ⟨hx, hb, hml, hown, hts, hK, hrt, hlk, hnm, hBs⟩ := id C
  have hsz : lsR.size = am_ml M := by obtain ⟨-, lv, q, -⟩ := hLr; exact q.1
  have kk' : ∀ (H1 : Heap) (locs1 : List Loc), RelH g h1 H1 → va_S (am_Ad g) s.heap H1 locs1 → W p l e R s m args below meth c H1 locs1 (cells + mc) (slots + ms) Q (F0 m (pc + 3) lsR ((r.map (am_tv g)).toList ++ st'.map (am_tv g))) := by
    intro H1 locs1 a1 a2
    have := kk H1 locs1 a1 a2
    rw [List.map_append] at this
    cases r <;> exact this
  have hgw : ∀ w ∈ am_wsj j, (1 ≤ j ∧ j < am_nm) → ∀ (a' : Array Value) (U : State), s.WarmedH U.vm → w.before a' U = true := by
    intro w hw hjj a' U hW
    obtain ⟨o1, -⟩ := am_mOK hjj.1 hjj.2
    have hwT : w ∈ am_T := by
      rcases List.mem_cons.mp hw with rfl | h
      · exact o1
      · exact h
    exact word_at hW (am_goodT w hwT).2 (hts w hwT)
  rcases am_isCall hst with ⟨i, rfl⟩ | ⟨i, rfl⟩ | ⟨i, rfl⟩
  · simp only [am_do] at hst
    split at hst
    · rename_i q
      cases hst
      simp only [am_rl, Bool.and_eq_true, decide_eq_true_eq] at hrl
      obtain ⟨rfl, hrl⟩ := hrl
      rw [if_neg (by omega), if_neg (by omega), if_neg (by omega), if_neg (by omega), if_neg (by omega), if_neg (by omega)] at hrl
      simp only [Bool.and_eq_true, decide_eq_true_eq] at hrl
      obtain ⟨⟨⟨hjj, hst1⟩, hnp⟩, hlk9⟩ := hrl
      obtain ⟨o1, o2, o3, o4, o5, o6, o7, o8, o9, o10⟩ := am_mOK hjj.1 hjj.2
      have hlen : (((st.take r2).reverse).map (am_tv g)).length = r2 := by simp; omega
      have hstk : st.map (am_tv g) = (((st.take r2).reverse).map (am_tv g)).reverse ++ (st.drop r2).map (am_tv g) := by
        rw [← List.map_reverse, List.reverse_reverse, ← List.map_append, List.take_append_drop]
      have h8 := am_sum8 ((st.drop r2).map (am_tv g)) (by simpa using q.2)
      unfold am_lk at hlk9
      by_cases hz : z = 1
      · rw [if_pos hz, decide_eq_true_eq] at hlk9
        exact am_callR (va_runSN (n := r2) (Ts := am_T) (host := "DrumWorld") ⟨hx, hb, hml, hown, hts⟩ (hM hjj.1 hjj.2) ⟨⟨⟨rfl, rfl, hfr, by show 8 + (am_ml _ + 11) + 64 * d ≤ _; omega, fun w hw => hgw w hw hjj, List.mem_cons_self⟩, hts _ o1, hts _ o2, o7, fun sig hs9 => hnp.trans (o9 sig hs9), va_Nw.use rfl (hK.2.2.2.1 _ _ _ _ (List.mem_of_getElem? hlk9))⟩, hts _ (o3 hst1), trivial⟩ ⟨am_Pre_blind, fun U hU hW => ⟨rfl, by rw [hU]; exact hr, hK.warm hW⟩⟩ rfl hlen hsz hstk (lv_room h8) hd hcs) hS kk'
      · rw [if_neg hz, decide_eq_true_eq] at hlk9
        exact am_callR (va_runS (n := r2) (Ts := am_T) ⟨hx, hb, hml, hown, hts⟩ (hM hjj.1 hjj.2) ⟨⟨rfl, rfl, hfr, by show 8 + (am_ml _ + 11) + 64 * d ≤ _; omega, fun w hw => hgw w hw hjj, List.mem_cons_self, hts _ o1, hts _ o2, o7, fun sig hs9 => hnp.trans (o9 sig hs9), hts _ (am_in hlk9 rfl)⟩, hts _ (o3 hst1)⟩ ⟨am_Pre_blind, fun U hU hW => ⟨rfl, by rw [hU]; exact hr, hK.warm hW⟩⟩ rfl hlen hsz hstk (lv_room h8) hd hcs) hS kk'
    · cases hst
  · simp only [am_do] at hst
    split at hst
    · rename_i n hn
      split at hst
      · rename_i q
        cases hst
        simp only [am_rl, Bool.and_eq_true, decide_eq_true_eq] at hrl
        obtain ⟨rfl, hrl⟩ := hrl
        rw [if_neg (by omega), if_neg (by omega)] at hrl
        simp only [Bool.and_eq_true, decide_eq_true_eq] at hrl
        obtain ⟨⟨⟨⟨⟨hjj, hst0⟩, hin⟩, hrn⟩, hnp⟩, hlk9⟩ := hrl
        obtain ⟨o1, o2, o3, o4, o5, o6, o7, o8, o9, o10⟩ := am_mOK hjj.1 hjj.2
        obtain ⟨hlt, hget⟩ := List.getElem?_eq_some_iff.mp hn
        have eas : (st.take (r2 + 1)).reverse = (.inr (.inr (.inl (some n)))) :: (st.take r2).reverse := by
          rw [List.take_add_one, hn]; simp
        rw [eas] at hM
        have hlen : (((st.take r2).reverse).map (am_tv g)).length = r2 := by simp; omega
        have hstk : st.map (am_tv g) = (((st.take r2).reverse).map (am_tv g)).reverse ++ .ref (am_ro g n) :: (st.drop (r2 + 1)).map (am_tv g) := by
          rw [← List.map_reverse, List.reverse_reverse]
          have e2 : st = st.take r2 ++ (.inr (.inr (.inl (some n)))) :: st.drop (r2 + 1) := by
            rw [← hget, ← List.drop_eq_getElem_cons hlt, List.take_append_drop]
          conv => lhs; rw [e2]
          rw [List.map_append, List.map_cons]
          rfl
        have h8 := am_sum8 ((st.drop (r2 + 1)).map (am_tv g)) (by simpa using q)
        have hMM := hM hjj.1 hjj.2
        unfold am_lk at hlk9
        have hcode : Cond.code (am_y j) (am_b j) (am_ml j) none ∈ am_T := by rw [← hrn]; exact o1
        have hcode2 : Cond.code (am_y j) (am_b j) (am_ml j) none ∈ am_wsj j := by rw [← hrn]; exact List.mem_cons_self
        by_cases hz : z = 1
        · rw [if_pos hz, decide_eq_true_eq] at hlk9
          exact am_callR (va_runIN (n := r2) (Ts := am_T) (host := "DrumWorld") ⟨hx, hb, hml, hown, hts⟩ hMM ⟨⟨⟨rfl, rfl, hfr, by show 8 + (am_ml _ + 11) + 64 * d ≤ _; omega, fun w hw => hgw w hw hjj, hcode2⟩, hts _ hcode, hts _ o2, o7, fun sig hs9 => hnp.trans (o9 sig hs9), va_Nw.use rfl (hK.2.2.2.1 _ _ _ _ (List.mem_of_getElem? hlk9))⟩, hin, hts _ (o4 (by omega))⟩ ⟨am_Pre_blind, fun U hU hW => ⟨rfl, by rw [hU]; exact hr, hK.warm hW⟩⟩ rfl hlen hsz hstk (lv_room h8) hd hcs) hS kk'
        · rw [if_neg hz, decide_eq_true_eq] at hlk9
          exact am_callR (va_runI (n := r2) (Ts := am_T) ⟨hx, hb, hml, hown, hts⟩ hMM ⟨⟨rfl, rfl, hfr, by show 8 + (am_ml _ + 11) + 64 * d ≤ _; omega, fun w hw => hgw w hw hjj, hcode2, hts _ hcode, hts _ o2, o7, fun sig hs9 => hnp.trans (o9 sig hs9), hts _ (am_in hlk9 rfl)⟩, hin, hts _ (o4 (by omega))⟩ ⟨am_Pre_blind, fun U hU hW => ⟨rfl, by rw [hU]; exact hr, hK.warm hW⟩⟩ rfl hlen hsz hstk (lv_room h8) hd hcs) hS kk'
      · cases hst
    · cases hst
  · simp only [am_do] at hst
    split at hst
    · rename_i n hn
      split at hst
      · rename_i q
        cases hst
        simp only [am_rl, Bool.and_eq_true, decide_eq_true_eq] at hrl
        obtain ⟨rfl, hrl⟩ := hrl
        rw [if_neg (by omega)] at hrl
        simp only [Bool.and_eq_true, decide_eq_true_eq] at hrl
        obtain ⟨⟨⟨⟨⟨hjj, hst0⟩, hmc⟩, hin⟩, hnp⟩, hlk9⟩ := hrl
        obtain ⟨o1, o2, o3, o4, o5, o6, o7, o8, o9, o10, o11, o12⟩ := am_mOK hjj.1 hjj.2
        obtain ⟨hlt, hget⟩ := List.getElem?_eq_some_iff.mp hn
        have eas : (st.take (r2 + 1)).reverse = (.inr (.inr (.inl (some n)))) :: (st.take r2).reverse := by
          rw [List.take_add_one, hn]; simp
        rw [eas] at hM
        have hlen : (((st.take r2).reverse).map (am_tv g)).length = r2 := by simp; omega
        have hstk : st.map (am_tv g) = (((st.take r2).reverse).map (am_tv g)).reverse ++ .ref (am_ro g n) :: (st.drop (r2 + 1)).map (am_tv g) := by
          rw [← List.map_reverse, List.reverse_reverse]
          have e2 : st = st.take r2 ++ (.inr (.inr (.inl (some n)))) :: st.drop (r2 + 1) := by
            rw [← hget, ← List.drop_eq_getElem_cons hlt, List.take_append_drop]
          conv => lhs; rw [e2]
          rw [List.map_append, List.map_cons]
          rfl
        have h8 := am_sum8 ((st.drop (r2 + 1)).map (am_tv g)) (by simpa using q.2)
        have hMM := hM hjj.1 hjj.2
        have hrecv : ∃ cellB : Cell, H[am_ro g n]? = some cellB ∧ cellB.vm.isStatics = false ∧ s.vm.findClass (am_y j).cls = some cellB.cls := by
          rcases o12 with o | o | o
          · obtain ⟨r0, n1, n2⟩ := am_roO hr (n := n) (by omega)
            obtain ⟨qc, q1, cellV, v1, v2, v3, v4⟩ := (hr.2.2.2.1 n n1 n2).1 (by omega)
            have hcls : qc.1 = (am_y j).cls := by
              have := o10 o
              rw [← q.1, q1] at this
              exact Option.some.inj this
            obtain ⟨hSl, hfc, kV, hkV, hkindV⟩ := hK.1 _ _ q1
            exact ⟨cellV, by rw [r0]; exact v1, by rw [v3]; rfl, by rw [← hcls, v2]; exact hfc⟩
          · obtain ⟨k, k1, rfl, k3, k4⟩ := hr.2.2.2.2.2.2.1 n (by rw [q.1, o])
            obtain ⟨⟨cell, g1, g2, g3, g4⟩, s2, s3, s4⟩ := hK.2.2.2.2.1.2.1 k k1
            have hlt2 : gK g k < gB g := by rw [← hK.2.2.2.2.2.2.2.2]; exact (Array.getElem?_eq_some_iff.mp g1).1
            exact ⟨cell, by rw [am_roK, hr.2.2.1 _ hlt2]; exact g1, g2, by rw [o11 o]; exact g3⟩
          · omega
        unfold am_lk at hlk9
        by_cases hz : z = 1
        · rw [if_pos hz, decide_eq_true_eq] at hlk9
          exact am_callR (va_runVN (n := r2) (Ts := am_T) (C := (am_y j).cls) (host := "DrumWorld") ⟨hx, hb, hml, hown, hts⟩ hMM ⟨⟨⟨rfl, rfl, hfr, by show 8 + (am_ml _ + 11) + 64 * d ≤ _; omega, fun w hw => hgw w hw hjj, List.mem_cons_self⟩, hts _ o1, hts _ o2, o7, fun sig hs9 => hnp.trans (o9 sig hs9), va_Nw.use rfl (hK.2.2.2.1 _ _ _ _ (List.mem_of_getElem? hlk9))⟩, hts _ (o4 (by omega)), hts _ (o5 (by omega) hin)⟩ ⟨am_Pre_blind, hrecv, fun U hU hW => ⟨rfl, by rw [hU]; exact hr, hK.warm hW⟩⟩ rfl hlen hsz hstk (lv_room h8) hd hcs) hS kk'
        · rw [if_neg hz, decide_eq_true_eq] at hlk9
          exact am_callR (va_runV (n := r2) (Ts := am_T) (C := (am_y j).cls) ⟨hx, hb, hml, hown, hts⟩ hMM ⟨⟨rfl, rfl, hfr, by show 8 + (am_ml _ + 11) + 64 * d ≤ _; omega, fun w hw => hgw w hw hjj, List.mem_cons_self, hts _ o1, hts _ o2, o7, fun sig hs9 => hnp.trans (o9 sig hs9), hts _ (am_in hlk9 rfl)⟩, hts _ (o4 (by omega)), hts _ (o5 (by omega) hin)⟩ ⟨am_Pre_blind, hrecv, fun U hU hW => ⟨rfl, by rw [hU]; exact hr, hK.warm hW⟩⟩ rfl hlen hsz hstk (lv_room h8) hd hcs) hS kk'
      · cases hst
    · cases hst
end CALL
