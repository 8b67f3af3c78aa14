/-! one instruction of the small machine is one of the great one -/
theorem am_roK {g : am_G} (i : Nat) : am_ro g (1000000 + 2 * i) = gK g i := by
  unfold am_ro
  rw [if_neg (by omega), if_neg (by omega), if_pos (by omega), show (1000000 + 2 * i - 1000000) / 2 = i by omega]
theorem am_roV {g : am_G} (i : Nat) : am_ro g (1000001 + 2 * i) = gV g i := by
  unfold am_ro
  rw [if_neg (by omega), if_neg (by omega), if_neg (by omega), show (1000001 + 2 * i - 1000001) / 2 = i by omega]
theorem am_ro0 {g : am_G} : am_ro g 0 = gb g := if_pos rfl
section ONE
variable {g : am_G} {M : Nat} {p : Program} {l : Launch} {e : Env} {R : Room} {s : State} {m : MethodId} {args : Array Value} {below : List Frame} {meth : Method} {c : Code} {H : Heap} {locs : List Loc} {cells slots : Nat} {Q : State → Prop}
variable {pc : Nat} {lsR : Array Slot} {rest : List Value} {h : am_H}
theorem am_getO (C : am_Cc g M p s m args meth c) (hr : RelH g h H) {idx n ci k pw : Nat} (hd : decode (am_b M) pc = .ok (.getfield idx, 3)) (hn : hkd h n = ci) (hf : am_fk M pw idx ci k = true)
    (kk : W p l e R s m args below meth c H locs cells slots Q (F0 m (pc + 3) lsR (am_fv g h n k :: rest))) : W p l e R s m args below meth c H locs cells slots Q (F0 m pc lsR (.ref (am_ro g n) :: rest)) := by
  obtain ⟨hx, hb, hml, hown, hts, hK, hrt, hlk, hnm, hBs⟩ := C
  unfold am_fk at hf
  split at hf
  · rename_i Cn F N hcl
    simp only [Bool.and_eq_true, decide_eq_true_eq] at hf
    obtain ⟨⟨hkN, hw⟩, hFC⟩ := hf
    obtain ⟨c1, c2, c3, c4, c5, c6, c7, c8, c9⟩ := am_cokA hcl
    obtain ⟨r0, n1, n2⟩ := am_roO hr (n := n) (by omega)
    obtain ⟨q, q1, q2⟩ := (hr.2.2.2.1 n n1 n2).1 (by omega)
    rw [hn] at q1 q2
    cases hcl.symm.trans q1
    rw [r0]
    refine va_get (D := (gC g, gI g)) (cl := am_cl) (tys := []) (ws := [(gB g + (n - 1), .inr (ci, (List.range N).map (am_fv g h n)))]) (ci := ci) (v := am_fv g h n k) hx hb hts c2 hown ⟨hK.1, fun k q h => by simp at h⟩ ?_ 0 rfl hcl k hkN (hts _ (am_in hw rfl)) (fun x h9 => by simp only at h9 ⊢; rw [hFC] at h9; exact h9) (by simp [hkN]) hd kk
    intro k' q' hq
    match k', hq with
    | 0, hq =>
      cases hq
      refine ⟨_, hcl, q2.to fun j hj => ?_⟩
      simp only at hj
      simp [vp_V, hj]
  · cases hf
theorem am_putO (C : am_Cc g M p s m args meth c) (hr : RelH g h H) {idx n ci k pw : Nat} {v : Value} (hd : decode (am_b M) pc = .ok (.putfield idx, 3)) (hn : hkd h n = ci) (hf : am_fk M pw idx ci k = true) (hz : am_fz M ci k = true) (hnar : narrow (am_ty ci k) v = v) (hfit : fits (am_ty ci k) v = true)
    (kk : ∀ (H' : Heap) (j : Nat), H'.size = H.size → (∀ q, q ≠ gB g + (n - 1) → H'[q]? = H[q]?) → (∃ q : vw_C, am_cl[ci]? = some q ∧ t_OB (gB g + (n - 1)) (gC g ci) q.2.2 (gI g ci) H' (updV (am_fv g h n) k v)) → W p l e R s m args below meth c H' (locs ++ [⟨gB g + (n - 1), j⟩]) cells slots Q (F0 m (pc + 3) lsR rest)) : W p l e R s m args below meth c H locs cells slots Q (F0 m pc lsR (v :: .ref (am_ro g n) :: rest)) := by
  obtain ⟨hx, hb, hml, hown, hts, hK, hrt, hlk, hnm, hBs⟩ := C
  unfold am_fk at hf
  unfold am_fz at hz
  split at hf
  · rename_i Cn F N hcl
    rw [hcl] at hz
    simp only [Bool.or_eq_true, Bool.not_eq_true', Bool.and_eq_true, decide_eq_true_eq] at hz
    simp only [Bool.and_eq_true, decide_eq_true_eq] at hf
    obtain ⟨⟨hkN, hw⟩, hFC⟩ := hf
    obtain ⟨c1, c2, c3, c4, c5, c6, c7, c8, c9⟩ := am_cokA hcl
    obtain ⟨r0, n1, n2⟩ := am_roO hr (n := n) (by omega)
    obtain ⟨q, q1, q2⟩ := (hr.2.2.2.1 n n1 n2).1 (by omega)
    rw [hn] at q1 q2
    cases hcl.symm.trans q1
    rw [r0]
    have hKv : va_K (gC g, gI g) am_cl [] s := ⟨hK.1, fun k q h => by simp at h⟩
    have hap := va_apart (own := am_cn M) (D := (gC g, gI g)) (ci := ci) hts c2 (am_ty ci) c3 c4 hKv hcl
    obtain ⟨cell, e1, e2, e3, e4⟩ := q2
    obtain ⟨hSl, hfc, kC, hkC, hkind⟩ := hK.1 ci _ hcl
    obtain ⟨cf, kf, fi, f, hi, hsl⟩ := hSl k hkN
    simp only at hi hsl e4
    have hi0 := hi
    rw [hFC] at hi0
    have hst := (u_facts hfc hkC (u_lays hts c2 hkN) hi).1
    have hlink := hts _ (am_in hw rfl)
    by_cases hfin : (F k).2.2.2 = false
    · have hlay := hts _ (c2 _ (u_in_lay hkN))
      unfold u_lay at hlay
      simp only at hlay
      rw [if_neg (by rw [hfin]; decide)] at hlay
      have h6 := u_store hfc hkC hkind hlay hi (c3 k hkN) hnar hfit
      refine W.putK hx hb (f := f) ⟨hown, hlink, ⟨_, _, _, hi0⟩, hst⟩ (by rw [e2]; exact h6) e1 e3 (by rw [hsl]; exact k2_hasslot (e4 k hkN)) rfl rfl hd fun H' g1 g2 g3 => ?_
      rw [hsl] at g1
      exact kk H' _ g2 g3 ⟨_, hcl, ⟨_, g1, e2, e3, t_set e4 hap hkN v⟩⟩
    · have hfin2 : (F k).2.2.2 = true := by simpa using hfin
      have hz2 := hz.resolve_left hfin
      have hlay := hts _ (c2 _ (u_in_lay hkN))
      unfold u_lay at hlay
      simp only at hlay
      rw [if_pos hfin2] at hlay
      have hcf : m.cls = cf := by
        obtain ⟨_, _, c', _, _, _, -, -, hf', -, -, -, hown2, -⟩ := Cond.laysFinal_spec hlay
        have e1 : c' = cf := by have := hi.symm.trans hf'; simp at this; exact this.1.symm
        rw [hz2.2] at hown2
        rw [← e1]; exact Option.some.inj (hown.symm.trans hown2)
      have h6 := u_fits hfc hkC hkind (Or.inr hlay) hi (c3 k hkN) hnar hfit
      refine W.putFinK hx hb hown hlink hi0 hst hcf (hnm hz2.1) (by rw [e2]; exact h6) e1 e3 (by rw [hsl]; exact k2_hasslot (e4 k hkN)) rfl rfl hd fun H' g1 g2 g3 => ?_
      rw [hsl] at g1
      exact kk H' _ g2 g3 ⟨_, hcl, ⟨_, g1, e2, e3, t_set e4 hap hkN v⟩⟩
  · cases hf
/-- an own array -/
theorem am_arrO (C : am_Cc g M p s m args meth c) (hr : RelH g h H) {n : Nat} (h1 : 99 ≤ hkd h n) (h2 : hkd h n < 900) : am_ro g n = gB g + (n - 1) ∧ H[am_ro g n]? = some (arrV (gA g (hkd h n)) (hln h n) (am_av g h n)) ∧ ArrOfT s (gA g (hkd h n)) (am_at (hkd h n)) ∧ s.vm.findClass ("[" ++ (am_at (hkd h n)).toString) = some (gA g (hkd h n)) ∧ am_okA (hkd h n) := by
  obtain ⟨hx, hb, hml, hown, hts, hK, hrt, hlk, hnm, hBs⟩ := C
  obtain ⟨r0, n1, n2⟩ := am_roO hr (n := n) h2
  obtain ⟨q1, q2⟩ := (hr.2.2.2.1 n n1 n2).2 h1
  obtain ⟨k1, k2⟩ := hK.2.1 _ q1
  exact ⟨r0, by rw [r0]; exact q2, k1, k2, q1⟩
theorem am_vpin {i : Int32} {n : Nat} (h : am_ix i n) : ¬ (i < 0 ∨ n ≤ i.toNatClampNeg) := by
  intro q
  rcases q with q | q
  · exact Int32.not_lt.mpr h.1 q
  · omega
theorem am_S1 {H' : Heap} {a j : Nat} (hS : va_S (am_Ad g) s.heap H locs) (z : H'.size = H.size) (oq : ∀ q, q ≠ a → H'[q]? = H[q]?) (ha : gB g ≤ a) : va_S (am_Ad g) s.heap H' (locs ++ [⟨a, j⟩]) := hS.put z oq ha
/-- an array of ours is written at a place -/
theorem am_storeA (hr : RelH g h H) {n j : Nat} {v : Value} {h' : am_H} {H' : Heap} (h1 : 99 ≤ hkd h n) (h2 : hkd h n < 900) (e1 : hk h' = hk h) (e2 : hkd h' = hkd h) (e3 : hln h' = hln h) (e4 : ∀ a, a ≠ n → hI h' a = hI h a ∧ hL h' a = hL h a ∧ hR h' a = hR h a) (ev : am_av g h' n = updV (am_av g h n) j v) (z : H'.size = H.size) (oq : ∀ q, q ≠ am_ro g n → H'[q]? = H[q]?) (hc : H'[am_ro g n]? = some ((arrV (gA g (hkd h n)) (hln h n) (am_av g h n)).setSlot j v)) : RelH g h' H' := by
  obtain ⟨r0, n1, n2⟩ := am_roO hr (n := n) h2
  rw [r0] at oq hc
  refine hr.upd h2 e1 e2 e3 e4 z oq ⟨fun q => ?_, fun q => ?_⟩
  · rw [e2] at q; omega
  · rw [e2, e3]
    refine ⟨((hr.2.2.2.1 n n1 n2).2 h1).1, ?_⟩
    rw [hc, arrV_store, ev]
theorem am_avI {n j : Nat} {x : Int32} (hk9 : hkd h n = 100 ∨ hkd h n = 101) : am_av g (setI h n j x) n = updV (am_av g h n) j (.int x) := by
  funext q
  have ek : hkd (setI h n j x) n = hkd h n := rfl
  have eI : hI (setI h n j x) n q = if q = j then x else hI h n q := by show (if n = n ∧ q = j then x else _) = _; simp
  simp only [am_av, updV, ek, eI]
  rw [if_neg (show ¬ hkd h n = 102 by omega), if_neg (show ¬ hkd h n = 102 by omega), if_pos hk9, if_pos hk9]
  by_cases e : q = j
  · rw [if_pos e, if_pos e]
  · rw [if_neg e, if_neg e]
theorem am_avL {n j : Nat} {x : Int64} (hk9 : hkd h n = 102) : am_av g (setL h n j x) n = updV (am_av g h n) j (.long x) := by
  funext q
  have ek : hkd (setL h n j x) n = hkd h n := rfl
  have eI : hL (setL h n j x) n q = if q = j then x else hL h n q := by show (if n = n ∧ q = j then x else _) = _; simp
  simp only [am_av, updV, ek, eI]
  rw [if_pos hk9, if_pos hk9]
  by_cases e : q = j
  · rw [if_pos e, if_pos e]
  · rw [if_neg e, if_neg e]
theorem am_avR {n j : Nat} {x : Option Nat} (hk9 : 103 ≤ hkd h n) : am_av g (setR h n j x) n = updV (am_av g h n) j (va_rf (x.map (am_ro g))) := by
  funext q
  have ek : hkd (setR h n j x) n = hkd h n := rfl
  have eI : hR (setR h n j x) n q = if q = j then x else hR h n q := by show (if n = n ∧ q = j then x else _) = _; simp
  simp only [am_av, updV, ek, eI]
  rw [if_neg (show ¬ hkd h n = 102 by omega), if_neg (show ¬ (hkd h n = 100 ∨ hkd h n = 101) by omega), if_neg (show ¬ hkd h n = 102 by omega), if_neg (show ¬ (hkd h n = 100 ∨ hkd h n = 101) by omega)]
  by_cases e : q = j
  · rw [if_pos e, if_pos e]
  · rw [if_neg e, if_neg e]
theorem am_nI (n j : Nat) (x : Int32) : ∀ a, a ≠ n → hI (setI h n j x) a = hI h a ∧ hL (setI h n j x) a = hL h a ∧ hR (setI h n j x) a = hR h a := fun a ha => ⟨by funext q; exact if_neg fun z => ha z.1, rfl, rfl⟩
theorem am_nL (n j : Nat) (x : Int64) : ∀ a, a ≠ n → hI (setL h n j x) a = hI h a ∧ hL (setL h n j x) a = hL h a ∧ hR (setL h n j x) a = hR h a := fun a ha => ⟨rfl, by funext q; exact if_neg fun z => ha z.1, rfl⟩
theorem am_nR (n j : Nat) (x : Option Nat) : ∀ a, a ≠ n → hI (setR h n j x) a = hI h a ∧ hL (setR h n j x) a = hL h a ∧ hR (setR h n j x) a = hR h a := fun a ha => ⟨rfl, rfl, by funext q; exact if_neg fun z => ha z.1⟩
theorem am_fvI {n j : Nat} {x : Int32} (hf : am_ft (hkd h n) j = 0 ∨ am_ft (hkd h n) j = 3) : am_fv g (setI h n j x) n = updV (am_fv g h n) j (.int x) := by
  funext q
  have ek : hkd (setI h n j x) n = hkd h n := rfl
  have eI : hI (setI h n j x) n q = if q = j then x else hI h n q := by show (if n = n ∧ q = j then x else _) = _; simp
  have eL : hL (setI h n j x) n q = hL h n q := rfl
  have eR : hR (setI h n j x) n q = hR h n q := rfl
  simp only [am_fv, updV, ek, eI, eL, eR]
  by_cases e : q = j
  · subst e
    rw [if_neg (by omega), if_neg (by omega), if_pos rfl, if_pos rfl]
  · rw [if_neg e, if_neg e]
theorem am_fvL {n j : Nat} {x : Int64} (hf : am_ft (hkd h n) j = 1) : am_fv g (setL h n j x) n = updV (am_fv g h n) j (.long x) := by
  funext q
  have ek : hkd (setL h n j x) n = hkd h n := rfl
  have eI : hI (setL h n j x) n q = hI h n q := rfl
  have eL : hL (setL h n j x) n q = if q = j then x else hL h n q := by show (if n = n ∧ q = j then x else _) = _; simp
  have eR : hR (setL h n j x) n q = hR h n q := rfl
  simp only [am_fv, updV, ek, eI, eL, eR]
  by_cases e : q = j
  · subst e
    rw [if_pos hf, if_pos rfl, if_pos rfl]
  · rw [if_neg e, if_neg e]
theorem am_fvR {n j : Nat} {x : Option Nat} (hf : am_ft (hkd h n) j = 2) : am_fv g (setR h n j x) n = updV (am_fv g h n) j (va_rf (x.map (am_ro g))) := by
  funext q
  have ek : hkd (setR h n j x) n = hkd h n := rfl
  have eI : hI (setR h n j x) n q = hI h n q := rfl
  have eL : hL (setR h n j x) n q = hL h n q := rfl
  have eR : hR (setR h n j x) n q = if q = j then x else hR h n q := by show (if n = n ∧ q = j then x else _) = _; simp
  simp only [am_fv, updV, ek, eI, eL, eR]
  by_cases e : q = j
  · subst e
    rw [if_neg (by omega), if_pos hf, if_pos rfl, if_pos rfl]
  · rw [if_neg e, if_neg e]
/-- a field of ours is written -/
theorem am_storeF (hr : RelH g h H) {n j ci : Nat} {v : Value} {h' : am_H} {H' : Heap} (h2 : hkd h n = ci) (e1 : hk h' = hk h) (e2 : hkd h' = hkd h) (e3 : hln h' = hln h) (e4 : ∀ a, a ≠ n → hI h' a = hI h a ∧ hL h' a = hL h a ∧ hR h' a = hR h a) (ev : am_fv g h' n = updV (am_fv g h n) j v) (z : H'.size = H.size) (oq : ∀ q, q ≠ gB g + (n - 1) → H'[q]? = H[q]?) (hc : ∃ q : vw_C, am_cl[ci]? = some q ∧ t_OB (gB g + (n - 1)) (gC g ci) q.2.2 (gI g ci) H' (updV (am_fv g h n) j v)) : RelH g h' H' := by
  obtain ⟨q, q1, q2⟩ := hc
  have c1 := (am_cokA q1).1
  refine hr.upd (n := n) (by omega) e1 e2 e3 e4 z oq ⟨fun _ => ?_, fun q => ?_⟩
  · rw [e2, h2, ev]
    exact ⟨q, q1, q2⟩
  · rw [e2] at q; omega
end ONE
