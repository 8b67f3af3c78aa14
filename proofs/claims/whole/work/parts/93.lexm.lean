/-! text: tokens of bytes, the model -/
theorem numF_snoc {b : Nat → Nat} : ∀ j i a, numF b (j + 1) i a = 10 * numF b j i a + (b (i + j) - 48) := by
  intro j
  induction j with
  | zero => intro i a; rfl
  | succ j ih =>
    intro i a
    rw [numF, ih, show i + 1 + j = i + (j + 1) by omega]
    rfl
theorem shl8 {p c : Nat} (hp : p < 281474976710656) (hc : c < 256) : (lI p <<< (Int32.toInt64 8 &&& 63)) ||| Int32.toInt64 (nI c) = lI (p * 256 + c) := by
  have e : Int32.toInt64 8 &&& 63 = (8 : Int64) := by decide
  rw [e, l_nI (by omega)]
  apply Int64.toBitVec_inj.mp
  rw [Int64.toBitVec_or, Int64.toBitVec_shiftLeft]
  show (BitVec.ofNat 64 p <<< ((8 : Int64).toBitVec.smod 64)) ||| BitVec.ofNat 64 c = BitVec.ofNat 64 (p * 256 + c)
  have e8 : ((8 : Int64).toBitVec.smod 64) = 8#64 := by decide
  rw [e8]
  apply BitVec.eq_of_toNat_eq
  rw [BitVec.toNat_or]
  show (BitVec.ofNat 64 p <<< 8).toNat ||| _ = _
  rw [BitVec.toNat_shiftLeft, BitVec.toNat_ofNat, BitVec.toNat_ofNat, BitVec.toNat_ofNat]
  rw [Nat.mod_eq_of_lt (by omega : p < 2 ^ 64), Nat.mod_eq_of_lt (by omega : c < 2 ^ 64)]
  have s : p <<< 8 = p * 256 := by rw [Nat.shiftLeft_eq]
  rw [Nat.mod_eq_of_lt (by rw [s]; omega), Nat.mod_eq_of_lt (by omega : p * 256 + c < 2 ^ 64)]
  rw [← Nat.shiftLeft_add_eq_or_of_lt (by omega : c < 2 ^ 8), s]

def wdsM : List (List Nat) := [[116, 97, 107, 101], [99, 97, 108, 108], [108, 97, 116, 101], [102, 97, 114], [107, 105, 110, 100], [110, 111, 105, 115, 101], [100, 114, 105, 102, 116], [100, 101, 112, 116, 104], [111, 114], [97, 110, 100], [110, 111, 116]]
def mix (ws : List Nat) : List (List Nat) → Nat → Nat
  | [], k => k
  | x :: xs, k => if ws = x then k else mix ws xs (k + 1)
theorem mix_at (ws : List Nat) : ∀ (i : Nat), i ≤ 11 → mix ws (wdsM.drop i) i = if i = 11 then 11 else if ws = wdsM.getD i [] then i else mix ws (wdsM.drop (i + 1)) (i + 1) := by
  intro i hi
  rcases (by omega : i = 0 ∨ i = 1 ∨ i = 2 ∨ i = 3 ∨ i = 4 ∨ i = 5 ∨ i = 6 ∨ i = 7 ∨ i = 8 ∨ i = 9 ∨ i = 10 ∨ i = 11) with rfl | rfl | rfl | rfl | rfl | rfl | rfl | rfl | rfl | rfl | rfl | rfl <;> rfl
theorem wdM_pk : ∀ k, k < 11 → wdL.getD k 0 = lI (pkL (wdsM.getD k []) 0) ∧ (wdsM.getD k []).length ≤ 5 ∧ 1 ≤ pkL (wdsM.getD k []) 0 := by decide
theorem wdM_c : ∀ k, k < 11 → ∀ c, c ∈ wdsM.getD k [] → 1 ≤ c ∧ c < 256 := by decide
/-- the class's code of a word, by the model's number -/
def pmM : List Nat := [128, 129, 133, 134, 135, 136, 137, 138, 130, 131, 132]
theorem mix_wix (ws : List Nat) : (mix ws wdsM 0 = 11 ∧ wix ws wds 128 = 2) ∨ (mix ws wdsM 0 < 11 ∧ wix ws wds 128 = pmM.getD (mix ws wdsM 0) 0) := by
  by_cases a0 : ws = wdsM.getD 0 []
  · rw [a0]; exact Or.inr (by decide)
  · by_cases a1 : ws = wdsM.getD 1 []
    · rw [a1]; exact Or.inr (by decide)
    · by_cases a2 : ws = wdsM.getD 2 []
      · rw [a2]; exact Or.inr (by decide)
      · by_cases a3 : ws = wdsM.getD 3 []
        · rw [a3]; exact Or.inr (by decide)
        · by_cases a4 : ws = wdsM.getD 4 []
          · rw [a4]; exact Or.inr (by decide)
          · by_cases a5 : ws = wdsM.getD 5 []
            · rw [a5]; exact Or.inr (by decide)
            · by_cases a6 : ws = wdsM.getD 6 []
              · rw [a6]; exact Or.inr (by decide)
              · by_cases a7 : ws = wdsM.getD 7 []
                · rw [a7]; exact Or.inr (by decide)
                · by_cases a8 : ws = wdsM.getD 8 []
                  · rw [a8]; exact Or.inr (by decide)
                  · by_cases a9 : ws = wdsM.getD 9 []
                    · rw [a9]; exact Or.inr (by decide)
                    · by_cases a10 : ws = wdsM.getD 10 []
                      · rw [a10]; exact Or.inr (by decide)
                      · left
                        refine ⟨?_, ?_⟩
                        · show (if ws = _ then _ else if ws = _ then _ else if ws = _ then _ else if ws = _ then _ else if ws = _ then _ else if ws = _ then _ else if ws = _ then _ else if ws = _ then _ else if ws = _ then _ else if ws = _ then _ else if ws = _ then _ else _) = _
                          rw [if_neg (show ¬ ws = [116, 97, 107, 101] from a0), if_neg (show ¬ ws = [99, 97, 108, 108] from a1), if_neg (show ¬ ws = [108, 97, 116, 101] from a2), if_neg (show ¬ ws = [102, 97, 114] from a3), if_neg (show ¬ ws = [107, 105, 110, 100] from a4), if_neg (show ¬ ws = [110, 111, 105, 115, 101] from a5), if_neg (show ¬ ws = [100, 114, 105, 102, 116] from a6), if_neg (show ¬ ws = [100, 101, 112, 116, 104] from a7), if_neg (show ¬ ws = [111, 114] from a8), if_neg (show ¬ ws = [97, 110, 100] from a9), if_neg (show ¬ ws = [110, 111, 116] from a10)]
                          rfl
                        · show (if ws = _ then _ else if ws = _ then _ else if ws = _ then _ else if ws = _ then _ else if ws = _ then _ else if ws = _ then _ else if ws = _ then _ else if ws = _ then _ else if ws = _ then _ else if ws = _ then _ else if ws = _ then _ else _) = _
                          rw [if_neg (show ¬ ws = [116, 97, 107, 101] from a0), if_neg (show ¬ ws = [99, 97, 108, 108] from a1), if_neg (show ¬ ws = [111, 114] from a8), if_neg (show ¬ ws = [97, 110, 100] from a9), if_neg (show ¬ ws = [110, 111, 116] from a10), if_neg (show ¬ ws = [108, 97, 116, 101] from a2), if_neg (show ¬ ws = [102, 97, 114] from a3), if_neg (show ¬ ws = [107, 105, 110, 100] from a4), if_neg (show ¬ ws = [110, 111, 105, 115, 101] from a5), if_neg (show ¬ ws = [100, 114, 105, 102, 116] from a6), if_neg (show ¬ ws = [100, 101, 112, 116, 104] from a7)]
                          rfl
/-- only where the model reads its tokens -/
def Fn (h h1 : am_H) : Prop := Fi (fun a => a = 56) h h1 ∧ ∀ f, f < 45 ∨ 49 ≤ f → hI h1 56 f = hI h 56 f
theorem Fn.rf {h : am_H} : Fn h h := ⟨Fi.rf, fun _ _ => rfl⟩
theorem Fn.tr {h h' h'' : am_H} (F : Fn h h') (G : Fn h' h'') : Fn h h'' := ⟨F.1.tr G.1, fun f q => (G.2 f q).trans (F.2 f q)⟩
theorem Fn.si {h h' : am_H} (F : Fn h h') {i : Nat} {v : Int32} (w : 45 ≤ i ∧ i < 49) : Fn h (setI h' 56 i v) := ⟨F.1.si rfl, fun f q => by rw [hI_eq, if_neg (by omega)]; exact F.2 f q⟩
/-- the model's bytes -/
def Mb (b : Nat → Nat) (sz : Nat) (h : am_H) : Prop := sz ≤ 160 ∧ hI h 56 22 = nI sz ∧ ∀ k, k < sz → b k < 256 ∧ hI h 73 k = nI (b k)
theorem Mb.fn {b : Nat → Nat} {sz : Nat} {h h' : am_H} (H : Mb b sz h) (F : Fn h h') : Mb b sz h' := ⟨H.1, (F.2 22 (by omega)).trans H.2.1, fun k hk => by rw [F.1.2.2.2.2.2 73 (by omega)]; exact H.2.2 k hk⟩
theorem wsF_snoc {b : Nat → Nat} {fr i : Nat} (h : fr ≤ i) : wsF b fr (i + 1) = wsF b fr i ++ [b i] := by
  unfold wsF
  rw [show i + 1 - fr = (i - fr) + 1 by omega, List.range_succ, List.map_append]
  show _ ++ [b (fr + (i - fr))] = _
  rw [show fr + (i - fr) = i by omega]
section LEXM
variable {d : Nat} {h : am_H}
theorem m_blanks {b : Nat → Nat} {sz : Nat} : ∀ (j i : Nat) (h : am_H), i + j = sz → Sm h → Mb b sz h → hI h 56 45 = nI i → ∃ h1, Ev (d + 4) 176 0 [vr (some 56), vu, vu, vu, vu] [] h = Ev (d + 4) 176 52 [vr (some 56), vu, vu, vu, vu] [] h1 ∧ Fn h h1 ∧ hI h1 56 45 = nI (runB isBl b j i) := by
  intro j
  induction j with
  | zero =>
    intro i h e T H qa
    obtain ⟨h160, q1, q2⟩ := H
    refine ⟨h, ?_, Fn.rf, qa⟩
    rw [B_176_0 T, q1, qa]
    simp (decide := true) (disch := (first | assumption | (simp only [Sh_setI, Sm_setI, Sh_setL, Sm_setL]; assumption) | omega)) only [n_le, show sz ≤ i by omega, bI_True, bI_False, p_max, p_min, p_abs, Option.bind_some, Option.bind_none, Option.toList_some, Option.toList_none, List.cons_append, List.nil_append, bI_eq0, bI_ne0, bI_ne1, bI_eq1, bI_01, eq_self, true_or, or_true, and_true, true_and, false_and, and_false, false_or, or_false, ite_true, ite_false, if_true, if_false, not_true, not_false_iff, Classical.not_not, nem, ite_not, ne_eq]
  | succ j ih =>
    intro i h e T H qa
    obtain ⟨h160, q1, q2⟩ := id H
    obtain ⟨b1, b2⟩ := q2 i (by omega)
    have F1 : Fn h (setI h 56 45 (nI (i + 1))) := Fn.rf.si (by omega)
    have T1 : Sm (setI h 56 45 (nI (i + 1))) := T.si
    rw [runB]
    by_cases c : b i = 32
    · have bl : isBl (b i) = true := by rw [c]; decide
      rw [if_pos bl]
      obtain ⟨h1, e1, F2, r⟩ := ih (i + 1) _ (by omega) T1 (H.fn F1) (by rw [hI_eq, if_pos rfl])
      refine ⟨h1, ?_, F1.tr F2, r⟩
      rw [B_176_0 T, q1, qa]
      simp (decide := true) (disch := (first | assumption | (simp only [Sh_setI, Sm_setI, Sh_setL, Sm_setL]; assumption) | omega)) only [n_le, show ¬ sz ≤ i by omega, B_176_11 T, qa, n_ix, n_cl, b2, n_eqO, c, B_176_39 T, n_addO, bI_True, bI_False, p_max, p_min, p_abs, Option.bind_some, Option.bind_none, Option.toList_some, Option.toList_none, List.cons_append, List.nil_append, bI_eq0, bI_ne0, bI_ne1, bI_eq1, bI_01, eq_self, true_or, or_true, and_true, true_and, false_and, and_false, false_or, or_false, ite_true, ite_false, if_true, if_false, not_true, not_false_iff, Classical.not_not, nem, ite_not, ne_eq]
      exact e1
    · by_cases c2 : b i = 10
      · have bl : isBl (b i) = true := by rw [c2]; decide
        rw [if_pos bl]
        obtain ⟨h1, e1, F2, r⟩ := ih (i + 1) _ (by omega) T1 (H.fn F1) (by rw [hI_eq, if_pos rfl])
        refine ⟨h1, ?_, F1.tr F2, r⟩
        rw [B_176_0 T, q1, qa]
        simp (decide := true) (disch := (first | assumption | (simp only [Sh_setI, Sm_setI, Sh_setL, Sm_setL]; assumption) | omega)) only [n_le, show ¬ sz ≤ i by omega, B_176_11 T, qa, n_ix, n_cl, b2, n_eqO, c2, B_176_25 T, B_176_39 T, n_addO, bI_True, bI_False, p_max, p_min, p_abs, Option.bind_some, Option.bind_none, Option.toList_some, Option.toList_none, List.cons_append, List.nil_append, bI_eq0, bI_ne0, bI_ne1, bI_eq1, bI_01, eq_self, true_or, or_true, and_true, true_and, false_and, and_false, false_or, or_false, ite_true, ite_false, if_true, if_false, not_true, not_false_iff, Classical.not_not, nem, ite_not, ne_eq]
        exact e1
      · have bl : ¬ isBl (b i) = true := by unfold isBl; simp [c, c2]
        rw [if_neg bl]
        refine ⟨h, ?_, Fn.rf, qa⟩
        rw [B_176_0 T, q1, qa]
        simp (decide := true) (disch := (first | assumption | (simp only [Sh_setI, Sm_setI, Sh_setL, Sm_setL]; assumption) | omega)) only [n_le, show ¬ sz ≤ i by omega, B_176_11 T, qa, n_ix, n_cl, b2, n_eqO, c, c2, B_176_25 T, bI_True, bI_False, p_max, p_min, p_abs, Option.bind_some, Option.bind_none, Option.toList_some, Option.toList_none, List.cons_append, List.nil_append, bI_eq0, bI_ne0, bI_ne1, bI_eq1, bI_01, eq_self, true_or, or_true, and_true, true_and, false_and, and_false, false_or, or_false, ite_true, ite_false, if_true, if_false, not_true, not_false_iff, Classical.not_not, nem, ite_not, ne_eq]
theorem in_L {c : Nat} (hc : c < 256) : (97 ≤ nI c ∧ nI c ≤ 122) = (isLt c = true) := by
  unfold isLt
  rw [decide_eq_true_eq, n_Ole (by omega) (by decide), n_leO (by omega) (by decide)]
theorem in_D {c : Nat} (hc : c < 256) : (48 ≤ nI c ∧ nI c ≤ 57) = (isDg c = true) := by
  unfold isDg
  rw [decide_eq_true_eq, n_Ole (by omega) (by decide), n_leO (by omega) (by decide)]
theorem m_inL {c : Nat} (hc : c < 256) : Cl (d + 4) 148 [vi (nI c), vi 97, vi 122] h = some (some (vi (bI (isLt c = true))), h) := by
  rw [m_in, bI_cg (Iff.of_eq (in_L hc))]
theorem m_inD {c : Nat} (hc : c < 256) : Cl (d + 4) 148 [vi (nI c), vi 48, vi 57] h = some (some (vi (bI (isDg c = true))), h) := by
  rw [m_in, bI_cg (Iff.of_eq (in_D hc))]
theorem m_letters {b : Nat → Nat} {sz fr : Nat} : ∀ (j i : Nat) (h : am_H) (w : Int64), i + j = sz → fr ≤ i → Sm h → Mb b sz h → hI h 56 45 = nI i → (i - fr ≤ 5 → w = lI (pkL (wsF b fr i) 0)) → ∃ h1 w', Ev (d + 8) 177 4 [vr (some 56), vl w, vu, vi (nI (i - fr))] [] h = some (some (vl w'), h1) ∧ Fn h h1 ∧ (∀ f, f ≠ 45 → hI h1 56 f = hI h 56 f) ∧ hI h1 56 45 = nI (runB isLt b j i) ∧ (runB isLt b j i - fr ≤ 5 → w' = lI (pkL (wsF b fr (runB isLt b j i)) 0)) ∧ (¬ runB isLt b j i - fr ≤ 5 → w' = 0) := by
  intro j
  induction j with
  | zero =>
    intro i h w e hf T H qa hw
    obtain ⟨h160, q1, q2⟩ := H
    by_cases n5 : i - fr ≤ 5
    · refine ⟨h, w, ?_, Fn.rf, fun _ _ => rfl, qa, fun _ => hw n5, fun z => absurd n5 z⟩
      rw [B_177_4 T, q1, qa]
      simp (decide := true) (disch := (first | assumption | (simp only [Sh_setI, Sm_setI, Sh_setL, Sm_setL]; assumption) | omega)) only [n_le, show sz ≤ i by omega, B_177_76, n_leO, n5, B_177_85, B_177_86, bI_True, bI_False, p_max, p_min, p_abs, Option.bind_some, Option.bind_none, Option.toList_some, Option.toList_none, List.cons_append, List.nil_append, bI_eq0, bI_ne0, bI_ne1, bI_eq1, bI_01, eq_self, true_or, or_true, and_true, true_and, false_and, and_false, false_or, or_false, ite_true, ite_false, if_true, if_false, not_true, not_false_iff, Classical.not_not, nem, ite_not, ne_eq]
    · refine ⟨h, 0, ?_, Fn.rf, fun _ _ => rfl, qa, fun z => absurd z n5, fun _ => rfl⟩
      rw [B_177_4 T, q1, qa]
      simp (decide := true) (disch := (first | assumption | (simp only [Sh_setI, Sm_setI, Sh_setL, Sm_setL]; assumption) | omega)) only [n_le, show sz ≤ i by omega, B_177_76, n_leO, n5, B_177_81, B_177_86, bI_True, bI_False, p_max, p_min, p_abs, Option.bind_some, Option.bind_none, Option.toList_some, Option.toList_none, List.cons_append, List.nil_append, bI_eq0, bI_ne0, bI_ne1, bI_eq1, bI_01, eq_self, true_or, or_true, and_true, true_and, false_and, and_false, false_or, or_false, ite_true, ite_false, if_true, if_false, not_true, not_false_iff, Classical.not_not, nem, ite_not, ne_eq]
  | succ j ih =>
    intro i h w e hf T H qa hw
    obtain ⟨h160, q1, q2⟩ := id H
    obtain ⟨b1, b2⟩ := q2 i (by omega)
    have l1 := fun d => m_inL (d := d) (h := h) b1
    rw [runB]
    by_cases c : isLt (b i) = true
    · rw [if_pos c]
      have F1 : Fn h (setI h 56 45 (nI (i + 1))) := Fn.rf.si (by omega)
      have T1 : Sm (setI h 56 45 (nI (i + 1))) := T.si
      have ei : i + 1 - fr = (i - fr) + 1 := by omega
      by_cases n8 : 8 ≤ i - fr
      · obtain ⟨h1, w', e1, F2, g, r⟩ := ih (i + 1) _ w (by omega) (by omega) T1 (H.fn F1) (by rw [hI_eq, if_pos rfl]) (fun z => by omega)
        refine ⟨h1, w', ?_, F1.tr F2, fun f q => by rw [g f q, hI_eq, if_neg q], r⟩
        rw [ei] at e1
        rw [B_177_4 T, q1, qa]
        simp (decide := true) (disch := (first | assumption | (simp only [Sh_setI, Sm_setI, Sh_setL, Sm_setL]; assumption) | omega)) only [n_le, show ¬ sz ≤ i by omega, B_177_15 T, qa, n_ix, n_cl, b2, l1, c, B_177_31, B_177_34, n_Ole, n8, B_177_58, B_177_59 T, n_addO, bI_True, bI_False, p_max, p_min, p_abs, Option.bind_some, Option.bind_none, Option.toList_some, Option.toList_none, List.cons_append, List.nil_append, bI_eq0, bI_ne0, bI_ne1, bI_eq1, bI_01, eq_self, true_or, or_true, and_true, true_and, false_and, and_false, false_or, or_false, ite_true, ite_false, if_true, if_false, not_true, not_false_iff, Classical.not_not, nem, ite_not, ne_eq]
        exact e1
      · obtain ⟨h1, w', e1, F2, g, r⟩ := ih (i + 1) _ ((w <<< (Int32.toInt64 8 &&& 63)) ||| (Int32.toInt64 (nI (b i)))) (by omega) (by omega) T1 (H.fn F1) (by rw [hI_eq, if_pos rfl]) (fun z => by
          rw [hw (by omega)]
          have pl := pkL_lt (wsF b fr i) 0 (fun x hx => by
            unfold wsF at hx
            obtain ⟨k, hk, rfl⟩ := List.mem_map.mp hx
            exact (q2 (fr + k) (by have := List.mem_range.mp hk; omega)).1)
          have ln : (wsF b fr i).length = i - fr := by unfold wsF; rw [List.length_map, List.length_range]
          rw [ln] at pl
          have p4 : 256 ^ (i - fr) ≤ 256 ^ 4 := Nat.pow_le_pow_right (by decide) (by omega)
          have : (256 : Nat) ^ 4 = 4294967296 := by decide
          rw [shl8 (by omega) b1, wsF_snoc hf, pkL_app]
          rfl)
        refine ⟨h1, w', ?_, F1.tr F2, fun f q => by rw [g f q, hI_eq, if_neg q], r⟩
        rw [ei] at e1
        rw [B_177_4 T, q1, qa]
        simp (decide := true) (disch := (first | assumption | (simp only [Sh_setI, Sm_setI, Sh_setL, Sm_setL]; assumption) | omega)) only [n_le, show ¬ sz ≤ i by omega, B_177_15 T, qa, n_ix, n_cl, b2, l1, c, B_177_31, B_177_34, n_Ole, n8, B_177_40 T, B_177_59 T, n_addO, bI_True, bI_False, p_max, p_min, p_abs, Option.bind_some, Option.bind_none, Option.toList_some, Option.toList_none, List.cons_append, List.nil_append, bI_eq0, bI_ne0, bI_ne1, bI_eq1, bI_01, eq_self, true_or, or_true, and_true, true_and, false_and, and_false, false_or, or_false, ite_true, ite_false, if_true, if_false, not_true, not_false_iff, Classical.not_not, nem, ite_not, ne_eq]
        exact e1
    · rw [if_neg c]
      by_cases n5 : i - fr ≤ 5
      · refine ⟨h, w, ?_, Fn.rf, fun _ _ => rfl, qa, fun _ => hw n5, fun z => absurd n5 z⟩
        rw [B_177_4 T, q1, qa]
        simp (decide := true) (disch := (first | assumption | (simp only [Sh_setI, Sm_setI, Sh_setL, Sm_setL]; assumption) | omega)) only [n_le, show ¬ sz ≤ i by omega, B_177_15 T, qa, n_ix, n_cl, b2, l1, c, B_177_31, B_177_76, n_leO, n5, B_177_85, B_177_86, bI_True, bI_False, p_max, p_min, p_abs, Option.bind_some, Option.bind_none, Option.toList_some, Option.toList_none, List.cons_append, List.nil_append, bI_eq0, bI_ne0, bI_ne1, bI_eq1, bI_01, eq_self, true_or, or_true, and_true, true_and, false_and, and_false, false_or, or_false, ite_true, ite_false, if_true, if_false, not_true, not_false_iff, Classical.not_not, nem, ite_not, ne_eq]
      · refine ⟨h, 0, ?_, Fn.rf, fun _ _ => rfl, qa, fun z => absurd z n5, fun _ => rfl⟩
        rw [B_177_4 T, q1, qa]
        simp (decide := true) (disch := (first | assumption | (simp only [Sh_setI, Sm_setI, Sh_setL, Sm_setL]; assumption) | omega)) only [n_le, show ¬ sz ≤ i by omega, B_177_15 T, qa, n_ix, n_cl, b2, l1, c, B_177_31, B_177_76, n_leO, n5, B_177_81, B_177_86, bI_True, bI_False, p_max, p_min, p_abs, Option.bind_some, Option.bind_none, Option.toList_some, Option.toList_none, List.cons_append, List.nil_append, bI_eq0, bI_ne0, bI_ne1, bI_eq1, bI_01, eq_self, true_or, or_true, and_true, true_and, false_and, and_false, false_or, or_false, ite_true, ite_false, if_true, if_false, not_true, not_false_iff, Classical.not_not, nem, ite_not, ne_eq]
theorem m_words (T : Sm h) (L : Lt h) {ws : List Nat} {w : Int64} (hw : ∀ k, k < 11 → (wdL.getD k 0 = w ↔ ws = wdsM.getD k [])) {a1 : Int32} : ∀ j i, i + j = 11 → Ev (d + 4) 176 111 [vr (some 56), vi a1, vl w, vu, vi (nI i)] [] h = Ev (d + 4) 176 136 [vr (some 56), vi a1, vl w, vu, vi (nI (mix ws (wdsM.drop i) i))] [] h := by
  intro j
  induction j with
  | zero =>
    intro i e
    rw [mix_at _ i (by omega), if_pos (by omega), B_176_111]
    have : i = 11 := by omega
    subst this
    simp (decide := true) (disch := (first | assumption | (simp only [Sh_setI, Sm_setI, Sh_setL, Sm_setL]; assumption) | omega)) only [n_Ole, Nat.le_refl, bI_True, bI_False, p_max, p_min, p_abs, Option.bind_some, Option.bind_none, Option.toList_some, Option.toList_none, List.cons_append, List.nil_append, bI_eq0, bI_ne0, bI_ne1, bI_eq1, bI_01, eq_self, true_or, or_true, and_true, true_and, false_and, and_false, false_or, or_false, ite_true, ite_false, if_true, if_false, not_true, not_false_iff, Classical.not_not, nem, ite_not, ne_eq]
  | succ j ih =>
    intro i e
    have lk := L.2.1 i (by omega)
    rw [mix_at _ i (by omega), if_neg (by omega), B_176_111]
    by_cases c : ws = wdsM.getD i []
    · rw [if_pos c]
      have := (hw i (by omega)).mpr c
      simp (decide := true) (disch := (first | assumption | (simp only [Sh_setI, Sm_setI, Sh_setL, Sm_setL]; assumption) | omega)) only [n_Ole, show ¬ 11 ≤ i by omega, B_176_118 T, n_ix, n_cl, lk, lg_eq0, this, bI_True, bI_False, p_max, p_min, p_abs, Option.bind_some, Option.bind_none, Option.toList_some, Option.toList_none, List.cons_append, List.nil_append, bI_eq0, bI_ne0, bI_ne1, bI_eq1, bI_01, eq_self, true_or, or_true, and_true, true_and, false_and, and_false, false_or, or_false, ite_true, ite_false, if_true, if_false, not_true, not_false_iff, Classical.not_not, nem, ite_not, ne_eq]
    · rw [if_neg c]
      have : ¬ wdL.getD i 0 = w := fun z => c ((hw i (by omega)).mp z)
      simp (decide := true) (disch := (first | assumption | (simp only [Sh_setI, Sm_setI, Sh_setL, Sm_setL]; assumption) | omega)) only [n_Ole, show ¬ 11 ≤ i by omega, B_176_118 T, n_ix, n_cl, lk, lg_eq0, this, B_176_130, n_addO, bI_True, bI_False, p_max, p_min, p_abs, Option.bind_some, Option.bind_none, Option.toList_some, Option.toList_none, List.cons_append, List.nil_append, bI_eq0, bI_ne0, bI_ne1, bI_eq1, bI_01, eq_self, true_or, or_true, and_true, true_and, false_and, and_false, false_or, or_false, ite_true, ite_false, if_true, if_false, not_true, not_false_iff, Classical.not_not, nem, ite_not, ne_eq]
      exact ih (i + 1) (by omega)
theorem m_digits {b : Nat → Nat} {sz fr : Nat} {a1 : Int32} : ∀ (j i : Nat) (h : am_H), i + j = sz → fr ≤ i → Sm h → Mb b sz h → hI h 56 45 = nI i → (∀ q, fr ≤ q → q < i → isDg (b q) = true) → (i - fr ≤ 4 → hI h 56 48 = nI (numF b (i - fr) fr 0)) → ∃ h1, Ev (d + 8) 176 214 [vr (some 56), vi a1, vi (nI (i - fr)), vu, vu] [] h = Ev (d + 8) 176 293 [vr (some 56), vi a1, vi (nI (runB isDg b j i - fr)), vu, vu] [] h1 ∧ Fn h h1 ∧ (∀ f, f ≠ 45 → f ≠ 48 → hI h1 56 f = hI h 56 f) ∧ hI h1 56 45 = nI (runB isDg b j i) ∧ (runB isDg b j i - fr ≤ 4 → hI h1 56 48 = nI (numF b (runB isDg b j i - fr) fr 0)) := by
  intro j
  induction j with
  | zero =>
    intro i h e hf T H qa al hv
    obtain ⟨h160, q1, q2⟩ := H
    refine ⟨h, ?_, Fn.rf, fun _ _ _ => rfl, qa, hv⟩
    rw [B_176_214 T, q1, qa, runB]
    simp (decide := true) (disch := (first | assumption | (simp only [Sh_setI, Sm_setI, Sh_setL, Sm_setL]; assumption) | omega)) only [n_le, show sz ≤ i by omega, bI_True, bI_False, p_max, p_min, p_abs, Option.bind_some, Option.bind_none, Option.toList_some, Option.toList_none, List.cons_append, List.nil_append, bI_eq0, bI_ne0, bI_ne1, bI_eq1, bI_01, eq_self, true_or, or_true, and_true, true_and, false_and, and_false, false_or, or_false, ite_true, ite_false, if_true, if_false, not_true, not_false_iff, Classical.not_not, nem, ite_not, ne_eq]
  | succ j ih =>
    intro i h e hf T H qa al hv
    obtain ⟨h160, q1, q2⟩ := id H
    obtain ⟨b1, b2⟩ := q2 i (by omega)
    have l1 := fun d => m_inD (d := d) (h := h) b1
    have k56 : hkd h 56 = 11 := T.kd (n := 56) (k := 11) rfl rfl
    rw [runB]
    by_cases c : isDg (b i) = true
    · rw [if_pos c]
      have b48 : 48 ≤ b i := by unfold isDg at c; simp at c; omega
      have ei : i + 1 - fr = (i - fr) + 1 := by omega
      by_cases n4 : 4 ≤ i - fr
      · have F1 : Fn h (setI (setI h 56 48 0) 56 45 (nI (i + 1))) := (Fn.rf.si (by omega)).si (by omega)
        have T1 : Sm (setI (setI h 56 48 0) 56 45 (nI (i + 1))) := T.si.si
        obtain ⟨h1, e1, F2, g, r⟩ := ih (i + 1) _ (by omega) (by omega) T1 (H.fn F1) (by rw [hI_eq, if_pos rfl]) (fun q h1 h2 => by
          by_cases z : q = i
          · rw [z]; exact c
          · exact al q h1 (by omega)) (fun z => by omega)
        refine ⟨h1, ?_, F1.tr F2, fun f z1 z2 => by rw [g f z1 z2, hI_eq, if_neg z1, hI_eq, if_neg z2], r⟩
        rw [ei] at e1
        rw [B_176_214 T, q1, qa]
        simp (decide := true) (disch := (first | assumption | (simp only [Sh_setI, Sm_setI, Sh_setL, Sm_setL]; assumption) | omega)) only [n_le, show ¬ sz ≤ i by omega, B_176_225 T, qa, n_ix, n_cl, b2, l1, c, B_176_241, B_176_244, n_Ole, n4, B_176_273, B_176_274 T, k56, hI_eq, n_addO, B_176_290, bI_True, bI_False, p_max, p_min, p_abs, Option.bind_some, Option.bind_none, Option.toList_some, Option.toList_none, List.cons_append, List.nil_append, bI_eq0, bI_ne0, bI_ne1, bI_eq1, bI_01, eq_self, true_or, or_true, and_true, true_and, false_and, and_false, false_or, or_false, ite_true, ite_false, if_true, if_false, not_true, not_false_iff, Classical.not_not, nem, ite_not, ne_eq]
        exact e1
      · have hv' := hv (by omega)
        have e2 : (10 : Int32) * nI (numF b (i - fr) fr 0) + nI (b i) - 48 = nI (numF b (i + 1 - fr) fr 0) := by
          rw [ei, numF_snoc, show fr + (i - fr) = i by omega, show (10 : Int32) * nI (numF b (i - fr) fr 0) = nI (10 * numF b (i - fr) fr 0) from pk_mul 10 _, n_add]
          show _ - nI 48 = _
          rw [n_sub (by omega)]
          congr 1
          omega
        have F1 : Fn h (setI (setI h 56 48 (nI (numF b (i + 1 - fr) fr 0))) 56 45 (nI (i + 1))) := (Fn.rf.si (by omega)).si (by omega)
        have T1 : Sm (setI (setI h 56 48 (nI (numF b (i + 1 - fr) fr 0))) 56 45 (nI (i + 1))) := T.si.si
        obtain ⟨h1, e1, F2, g, r⟩ := ih (i + 1) _ (by omega) (by omega) T1 (H.fn F1) (by rw [hI_eq, if_pos rfl]) (fun q h1 h2 => by
          by_cases z : q = i
          · rw [z]; exact c
          · exact al q h1 (by omega)) (fun z => by rw [hI_eq, if_neg (by omega), hI_eq, if_pos rfl])
        refine ⟨h1, ?_, F1.tr F2, fun f z1 z2 => by rw [g f z1 z2, hI_eq, if_neg z1, hI_eq, if_neg z2], r⟩
        rw [ei] at e1
        rw [B_176_214 T, q1, qa]
        rw [ei] at e2
        simp (decide := true) (disch := (first | assumption | (simp only [Sh_setI, Sm_setI, Sh_setL, Sm_setL]; assumption) | omega)) only [n_le, show ¬ sz ≤ i by omega, B_176_225 T, qa, n_ix, n_cl, b2, l1, c, B_176_241, B_176_244, n_Ole, n4, B_176_250 T, hv', e2, B_176_274 T, k56, hI_eq, n_addO, B_176_290, bI_True, bI_False, p_max, p_min, p_abs, Option.bind_some, Option.bind_none, Option.toList_some, Option.toList_none, List.cons_append, List.nil_append, bI_eq0, bI_ne0, bI_ne1, bI_eq1, bI_01, eq_self, true_or, or_true, and_true, true_and, false_and, and_false, false_or, or_false, ite_true, ite_false, if_true, if_false, not_true, not_false_iff, Classical.not_not, nem, ite_not, ne_eq]
        exact e1
    · rw [if_neg c]
      refine ⟨h, ?_, Fn.rf, fun _ _ _ => rfl, qa, hv⟩
      rw [B_176_214 T, q1, qa]
      simp (decide := true) (disch := (first | assumption | (simp only [Sh_setI, Sm_setI, Sh_setL, Sm_setL]; assumption) | omega)) only [n_le, show ¬ sz ≤ i by omega, B_176_225 T, qa, n_ix, n_cl, b2, l1, c, B_176_241, bI_True, bI_False, p_max, p_min, p_abs, Option.bind_some, Option.bind_none, Option.toList_some, Option.toList_none, List.cons_append, List.nil_append, bI_eq0, bI_ne0, bI_ne1, bI_eq1, bI_01, eq_self, true_or, or_true, and_true, true_and, false_and, and_false, false_or, or_false, ite_true, ite_false, if_true, if_false, not_true, not_false_iff, Classical.not_not, nem, ite_not, ne_eq]
end LEXM
