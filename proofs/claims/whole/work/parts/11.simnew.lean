/-! making cells -/
theorem am_defR {t : FieldType} (h : t.isReference = true) : defaultValue t = .null := by
  cases t <;> first | rfl | (simp [FieldType.isReference] at h)
section NEW
variable {g : am_G} {M : Nat} {p : Program} {l : Launch} {e : Env} {R : Room} {s : State} {m : MethodId} {args : Array Value} {below : List Frame} {meth : Method} {c : Code} {H : Heap} {locs : List Loc} {cells slots : Nat} {Q : State → Prop}
variable {pc : Nat} {lsR : Array Slot} {rest : List Value} {h : am_H}
theorem am_roN (hr : RelH g h H) (h9 : hk h < 900000) : am_ro g (hk h + 1) = H.size ∧ gB g + (hk h + 1 - 1) = H.size := by
  have h1 := hr.1
  have h2 := hr.2.1
  refine ⟨?_, by omega⟩
  unfold am_ro
  rw [if_neg (by omega), if_pos (by omega)]
  omega
theorem am_newO (C : am_Cc g M p s m args meth c) (hr : RelH g h H) (hS : va_S (am_Ad g) s.heap H locs) {idx ci pw : Nat} (hd : decode (am_b M) pc = .ok (.new idx, 3)) (hf : am_cln M pw idx ci = true) (h9 : hk h < 900000) (hcells : cells + 1 ≤ R.cells) (hslots : slots + (am_ftl.getD ci []).length ≤ R.slots)
    (kk : ∀ H' : Heap, RelH g (newc h ci 0 (am_ftl.getD ci []).length) H' → va_S (am_Ad g) s.heap H' locs → W p l e R s m args below meth c H' locs (cells + 1) (slots + (am_ftl.getD ci []).length) Q (F0 m (pc + 3) lsR (.ref (am_ro g (hk h + 1)) :: rest))) : W p l e R s m args below meth c H locs cells slots Q (F0 m pc lsR rest) := by
  obtain ⟨hx, hb, hml, hown, hts, hK, hrt, hlk, hnm, hBs⟩ := C
  unfold am_cln at hf
  split at hf
  · rename_i Cn F N hcl
    simp only [decide_eq_true_eq] at hf
    obtain ⟨c1, c2, c3, c4, c5, c6, c7, c8, c9⟩ := am_cokA hcl
    simp only at c6 c7 c8
    have hKn := hK.1 ci _ hcl
    rw [c6] at hslots
    obtain ⟨r1, r2⟩ := am_roN hr h9
    have w := am_in hf rfl
    refine W.newcK hx hb hown (hts _ w) (hts _ c7) (hts _ c8) rfl hd hcells hslots hKn.2.1 rfl fun H1 kC hkC e1 z1 o1 => ?_
    rw [c6] at kk
    have hz : gB g ≤ H.size := by rw [hr.1]; omega
    have k1 := kk H1 (hr.new h9 (by omega) z1 o1 ⟨fun _ => ?_, fun q => ?_⟩) ⟨Nat.le_trans hS.1 (by omega), fun x h1 h2 => (o1 x (Nat.lt_of_lt_of_le h1 hS.1)).trans (hS.2.1 x h1 h2), hS.2.2⟩
    · rw [r1] at k1
      exact k1
    · have ek : hkd (newc h ci 0 N) (hk h + 1) = ci := if_pos rfl
      rw [ek, r2]
      refine ⟨_, hcl, (u_born (am_ty ci) hts c2 hKn hkC e1 c3).to fun j hj => ?_⟩
      have eI : hI (newc h ci 0 N) (hk h + 1) j = 0 := if_pos rfl
      have eL : hL (newc h ci 0 N) (hk h + 1) j = 0 := if_pos rfl
      have eR : hR (newc h ci 0 N) (hk h + 1) j = none := if_pos rfl
      unfold am_fv
      rw [ek, eI, eL, eR]
      rcases c5 j hj with ⟨f1, f2⟩ | ⟨f1, f2⟩ | ⟨f1, f2⟩ | ⟨f1, f2⟩
      · rw [f1, f2]; rfl
      · rw [f1, f2]; rfl
      · rw [f1, f2]; rfl
      · rw [f1, am_defR f2]; rfl
    · have ek : hkd (newc h ci 0 N) (hk h + 1) = ci := if_pos rfl
      rw [ek] at q
      omega
  · cases hf
theorem am_clamp {n : Int32} (h : am_ix n 4096) : ¬ n < 0 := Int32.not_lt.mpr h.1
theorem am_newA (C : am_Cc g M p s m args meth c) (hr : RelH g h H) (hS : va_S (am_Ad g) s.heap H locs) {t : ArrayType} {kd : Nat} {n : Int32} (hd : decode (am_b M) pc = .ok (.newarray t, 2)) (ht : (t = .int ∧ kd = 100) ∨ (t = .boolean ∧ kd = 101) ∨ (t = .long ∧ kd = 102)) (h9 : hk h < 900000) (hn : am_ix n 4096) (hcells : cells + 1 ≤ R.cells) (hslots : slots + n.toNatClampNeg ≤ R.slots)
    (kk : ∀ H' : Heap, RelH g (newc h kd n.toNatClampNeg n.toNatClampNeg) H' → va_S (am_Ad g) s.heap H' locs → W p l e R s m args below meth c H' locs (cells + 1) (slots + n.toNatClampNeg) Q (F0 m (pc + 2) lsR (.ref (am_ro g (hk h + 1)) :: rest))) : W p l e R s m args below meth c H locs cells slots Q (F0 m pc lsR (.int n :: rest)) := by
  obtain ⟨hx, hb, hml, hown, hts, hK, hrt, hlk, hnm, hBs⟩ := C
  obtain ⟨r1, r2⟩ := am_roN hr h9
  have hty : newarray.typeOf t = am_at kd := by rcases ht with ⟨rfl, rfl⟩ | ⟨rfl, rfl⟩ | ⟨rfl, rfl⟩ <;> rfl
  have hw : Cond.arrayClass (am_at kd) ∈ am_T := by rcases ht with ⟨rfl, rfl⟩ | ⟨rfl, rfl⟩ | ⟨rfl, rfl⟩ <;> first | exact am_wI | exact am_wZ | exact am_wJ
  have hcb : componentBytes (am_at kd) ≤ 8 := by rcases ht with ⟨rfl, rfl⟩ | ⟨rfl, rfl⟩ | ⟨rfl, rfl⟩ <;> decide
  have hok : am_okA kd := by unfold am_okA; omega
  have hb2 : n.toNatClampNeg * componentBytes (newarray.typeOf t) ≤ 536870912 := by
    rw [hty]
    exact Nat.le_trans (Nat.mul_le_mul (Nat.le_of_lt hn.2) hcb) (by decide)
  refine va_newaK hx hb (by rw [hty]; exact hts _ hw) rfl hd rfl (am_clamp hn) rfl hb2 hcells hslots rfl fun H1 cA e1 z1 o1 hAr hNm => ?_
  rw [hty] at e1 hNm
  have ecA : cA = gA g kd := Option.some.inj (hNm.symm.trans (hK.2.1 kd hok).2)
  have k1 := kk H1 (hr.new h9 (by omega) z1 o1 ⟨fun q => ?_, fun q => ?_⟩) ⟨Nat.le_trans hS.1 (by omega), fun x h1 h2 => (o1 x (Nat.lt_of_lt_of_le h1 hS.1)).trans (hS.2.1 x h1 h2), hS.2.2⟩
  · rw [r1] at k1
    exact k1
  · have ek : hkd (newc h kd n.toNatClampNeg n.toNatClampNeg) (hk h + 1) = kd := if_pos rfl
    rw [ek] at q
    omega
  · have ek : hkd (newc h kd n.toNatClampNeg n.toNatClampNeg) (hk h + 1) = kd := if_pos rfl
    have el : hln (newc h kd n.toNatClampNeg n.toNatClampNeg) (hk h + 1) = n.toNatClampNeg := if_pos rfl
    rw [ek, el, r2]
    refine ⟨hok, ?_⟩
    rw [e1, ecA]
    congr 2
    funext j
    have eI : hI (newc h kd n.toNatClampNeg n.toNatClampNeg) (hk h + 1) j = 0 := if_pos rfl
    have eL : hL (newc h kd n.toNatClampNeg n.toNatClampNeg) (hk h + 1) j = 0 := if_pos rfl
    unfold am_av
    rw [ek, eI, eL]
    rcases ht with ⟨rfl, rfl⟩ | ⟨rfl, rfl⟩ | ⟨rfl, rfl⟩ <;> rfl
theorem am_newQ (C : am_Cc g M p s m args meth c) (hr : RelH g h H) (hS : va_S (am_Ad g) s.heap H locs) {idx ci pw : Nat} {n : Int32} (hd : decode (am_b M) pc = .ok (.anewarray idx, 3)) (hf : am_cln M pw idx ci = true) (hci : 6 ≤ ci ∧ ci ≤ 10) (h9 : hk h < 900000) (hn : am_ix n 4096) (hcells : cells + 1 ≤ R.cells) (hslots : slots + n.toNatClampNeg ≤ R.slots)
    (kk : ∀ H' : Heap, RelH g (newc h (110 + ci) n.toNatClampNeg n.toNatClampNeg) H' → va_S (am_Ad g) s.heap H' locs → W p l e R s m args below meth c H' locs (cells + 1) (slots + n.toNatClampNeg) Q (F0 m (pc + 3) lsR (.ref (am_ro g (hk h + 1)) :: rest))) : W p l e R s m args below meth c H locs cells slots Q (F0 m pc lsR (.int n :: rest)) := by
  obtain ⟨hx, hb, hml, hown, hts, hK, hrt, hlk, hnm, hBs⟩ := C
  obtain ⟨r1, r2⟩ := am_roN hr h9
  unfold am_cln at hf
  split at hf
  · rename_i Cn F N hcl
    simp only [decide_eq_true_eq] at hf
    obtain ⟨c1, c2, c3, c4, c5, c6, c7, c8, c9⟩ := am_cokA hcl
    simp only at c9
    have hty : am_at (110 + ci) = .object Cn := by
      unfold am_at
      rw [if_neg (by omega), if_neg (by omega), if_neg (by omega), if_neg (by omega), show 110 + ci - 110 = ci by omega, c9]
    have hok : am_okA (110 + ci) := by unfold am_okA; omega
    have hAO : va_AO Cn s := by rw [← c9]; exact hK.2.2.1.1 ci hci.1 hci.2
    have hn2 := hn.2
    refine W.anew hx hb hown (hts _ (am_in hf rfl)) (hAO.use (A := args)) rfl hd rfl (am_clamp hn) (by omega) hcells hslots fun cA kA comp a1 a2 a3 a4 => ?_
    have ecA : cA = gA g (110 + ci) := by
      have := (hK.2.1 _ hok).2
      rw [hty] at this
      exact Option.some.inj (a1.symm.trans this)
    have k1 := kk (H.push { cls := cA, slots := Array.replicate n.toNatClampNeg .null, vm := .none }) (hr.new h9 (by omega) (by simp) (fun q hq => by rw [Array.getElem?_push, if_neg (Nat.ne_of_lt hq)]) ⟨fun q => ?_, fun q => ?_⟩) ⟨Nat.le_trans hS.1 (by simp), fun x h1 h2 => by rw [Array.getElem?_push, if_neg (Nat.ne_of_lt (Nat.lt_of_lt_of_le h1 hS.1))]; exact hS.2.1 x h1 h2, hS.2.2⟩
    · rw [r1] at k1
      exact k1
    · have ek : hkd (newc h (110 + ci) n.toNatClampNeg n.toNatClampNeg) (hk h + 1) = 110 + ci := if_pos rfl
      rw [ek] at q
      omega
    · have ek : hkd (newc h (110 + ci) n.toNatClampNeg n.toNatClampNeg) (hk h + 1) = 110 + ci := if_pos rfl
      have el : hln (newc h (110 + ci) n.toNatClampNeg n.toNatClampNeg) (hk h + 1) = n.toNatClampNeg := if_pos rfl
      rw [ek, el, r2]
      refine ⟨hok, ?_⟩
      rw [Array.getElem?_push, if_pos rfl, ← ecA, arrV_new]
      congr 2
      funext j
      have eR : hR (newc h (110 + ci) n.toNatClampNeg n.toNatClampNeg) (hk h + 1) j = none := if_pos rfl
      unfold am_av
      rw [ek, eR, if_neg (by omega), if_neg (by omega)]
      rfl
  · cases hf
end NEW
