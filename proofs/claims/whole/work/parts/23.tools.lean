/-! words for the proofs over the small machine -/
def bI (c : Prop) [Decidable c] : Int32 := if c then 1 else 0
theorem bI_T {c : Prop} [Decidable c] (h : c) : bI c = 1 := if_pos h
theorem bI_F {c : Prop} [Decidable c] (h : ¬ c) : bI c = 0 := if_neg h
theorem bI_eq0 {c : Prop} [Decidable c] : (bI c = 0) = ¬ c := propext ⟨fun e h => by rw [bI_T h] at e; exact absurd e (by decide), bI_F⟩
theorem bI_eq1 {c : Prop} [Decidable c] : (bI c = 1) = c := propext ⟨fun e => Classical.byContradiction fun h => by rw [bI_F h] at e; exact absurd e (by decide), bI_T⟩
theorem bI_ne0 {c : Prop} [Decidable c] : (bI c ≠ 0) = c := propext ⟨fun e => Classical.byContradiction fun h => e (bI_F h), fun h e => by rw [bI_T h] at e; exact absurd e (by decide)⟩
theorem bI_ne1 {c : Prop} [Decidable c] : (bI c ≠ 1) = ¬ c := propext ⟨fun e h => e (bI_T h), fun h e => by rw [bI_F h] at e; exact absurd e (by decide)⟩
theorem bI_01 {c : Prop} [Decidable c] : (bI c = 0 ∨ bI c = 1) = True := by
  by_cases h : c
  · rw [bI_T h]; decide
  · rw [bI_F h]; decide
theorem nem {c : Prop} : (¬ c ∨ c) = True := eq_true (Classical.em c |>.symm)
theorem bI_cg {c c' : Prop} [Decidable c] [Decidable c'] (h : c ↔ c') : bI c = bI c' := by
  by_cases q : c
  · rw [bI_T q, bI_T (h.mp q)]
  · rw [bI_F q, bI_F (fun w => q (h.mpr w))]
/-- one of two ints -/
theorem ne1_0 : ((1 : Int32) = 0) = False := by decide
theorem ne0_1 : ((0 : Int32) = 1) = False := by decide
theorem nt_le {a b : Int32} : (¬ a < b) = (b ≤ a) := propext Int32.not_lt
theorem nt_lt {a b : Int32} : (¬ a ≤ b) = (b < a) := propext Int32.not_le
/-! reads after writes -/
theorem hI_setI (h : am_H) (n i : Nat) (v : Int32) (a j : Nat) : hI (setI h n i v) a j = if a = n ∧ j = i then v else hI h a j := rfl
theorem hI_setL (h : am_H) (n i : Nat) (v : Int64) : hI (setL h n i v) = hI h := rfl
theorem hI_setR (h : am_H) (n i : Nat) (v : Option Nat) : hI (setR h n i v) = hI h := rfl
theorem hL_setI (h : am_H) (n i : Nat) (v : Int32) : hL (setI h n i v) = hL h := rfl
theorem hL_setL (h : am_H) (n i : Nat) (v : Int64) (a j : Nat) : hL (setL h n i v) a j = if a = n ∧ j = i then v else hL h a j := rfl
theorem hL_setR (h : am_H) (n i : Nat) (v : Option Nat) : hL (setR h n i v) = hL h := rfl
theorem hR_setI (h : am_H) (n i : Nat) (v : Int32) : hR (setI h n i v) = hR h := rfl
theorem hR_setL (h : am_H) (n i : Nat) (v : Int64) : hR (setL h n i v) = hR h := rfl
theorem hR_setR (h : am_H) (n i : Nat) (v : Option Nat) (a j : Nat) : hR (setR h n i v) a j = if a = n ∧ j = i then v else hR h a j := rfl
theorem hkd_setI (h : am_H) (n i : Nat) (v : Int32) : hkd (setI h n i v) = hkd h := rfl
theorem hkd_setL (h : am_H) (n i : Nat) (v : Int64) : hkd (setL h n i v) = hkd h := rfl
theorem hkd_setR (h : am_H) (n i : Nat) (v : Option Nat) : hkd (setR h n i v) = hkd h := rfl
theorem hln_setI (h : am_H) (n i : Nat) (v : Int32) : hln (setI h n i v) = hln h := rfl
theorem hln_setL (h : am_H) (n i : Nat) (v : Int64) : hln (setL h n i v) = hln h := rfl
theorem hln_setR (h : am_H) (n i : Nat) (v : Option Nat) : hln (setR h n i v) = hln h := rfl
theorem hk_setI (h : am_H) (n i : Nat) (v : Int32) : hk (setI h n i v) = hk h := rfl
theorem hk_setL (h : am_H) (n i : Nat) (v : Int64) : hk (setL h n i v) = hk h := rfl
theorem hk_setR (h : am_H) (n i : Nat) (v : Option Nat) : hk (setR h n i v) = hk h := rfl
theorem hs_setI (h : am_H) (n i : Nat) (v : Int32) : hs (setI h n i v) = hs h := rfl
theorem hs_setL (h : am_H) (n i : Nat) (v : Int64) : hs (setL h n i v) = hs h := rfl
theorem hs_setR (h : am_H) (n i : Nat) (v : Option Nat) : hs (setR h n i v) = hs h := rfl
theorem Sh_setI {h : am_H} {n i : Nat} {v : Int32} : Sh (setI h n i v) = Sh h := rfl
theorem Sh_setL {h : am_H} {n i : Nat} {v : Int64} : Sh (setL h n i v) = Sh h := rfl
theorem Sm_setI {h : am_H} {n i : Nat} {v : Int32} : Sm (setI h n i v) = Sm h := rfl
theorem Sm_setL {h : am_H} {n i : Nat} {v : Int64} : Sm (setL h n i v) = Sm h := rfl
theorem Sh.si {h : am_H} (S : Sh h) {n i : Nat} {v : Int32} : Sh (setI h n i v) := S
theorem Sh.sl {h : am_H} (S : Sh h) {n i : Nat} {v : Int64} : Sh (setL h n i v) := S
theorem Sm.si {h : am_H} (S : Sm h) {n i : Nat} {v : Int32} : Sm (setI h n i v) := S
theorem Sm.sl {h : am_H} (S : Sm h) {n i : Nat} {v : Int64} : Sm (setL h n i v) := S
/-! small numbers -/
theorem nO {b : Nat} : (OfNat.ofNat b : Int32) = nI b := rfl
theorem n_ltT {a b : Nat} (h : a < b) (hb : b < 2147483648) : (nI a < nI b) = True := eq_true (nI_lt h hb)
theorem n_ltF {a b : Nat} (h : b ≤ a) (ha : a < 2147483648) : (nI a < nI b) = False := eq_false (nI_nlt h ha)
theorem n_leT {a b : Nat} (h : a ≤ b) (hb : b < 2147483648) : (nI a ≤ nI b) = True := eq_true (nI_le h hb)
theorem n_leF {a b : Nat} (h : b < a) (ha : a < 2147483648) : (nI a ≤ nI b) = False := eq_false (nI_ge h ha)
theorem n_lt {a b : Nat} (ha : a < 2147483648) (hb : b < 2147483648) : (nI a < nI b) = (a < b) := propext (nI_ltI ha hb)
theorem n_le {a b : Nat} (ha : a < 2147483648) (hb : b < 2147483648) : (nI a ≤ nI b) = (a ≤ b) := propext (nI_leI ha hb)
theorem n_eq {a b : Nat} (ha : a < 2147483648) (hb : b < 2147483648) : (nI a = nI b) = (a = b) := propext (nI_eq ha hb)
theorem n_ltO {a b : Nat} (ha : a < 2147483648) (hb : (@OfNat.ofNat Nat b (instOfNatNat b)) < 2147483648) : (nI a < (no_index (OfNat.ofNat b : Int32))) = (a < (@OfNat.ofNat Nat b (instOfNatNat b))) := n_lt ha hb
theorem n_leO {a b : Nat} (ha : a < 2147483648) (hb : (@OfNat.ofNat Nat b (instOfNatNat b)) < 2147483648) : (nI a ≤ (no_index (OfNat.ofNat b : Int32))) = (a ≤ (@OfNat.ofNat Nat b (instOfNatNat b))) := n_le ha hb
theorem n_eqO {a b : Nat} (ha : a < 2147483648) (hb : (@OfNat.ofNat Nat b (instOfNatNat b)) < 2147483648) : (nI a = (no_index (OfNat.ofNat b : Int32))) = (a = (@OfNat.ofNat Nat b (instOfNatNat b))) := n_eq ha hb
theorem n_Olt {a b : Nat} (ha : a < 2147483648) (hb : (@OfNat.ofNat Nat b (instOfNatNat b)) < 2147483648) : ((no_index (OfNat.ofNat b : Int32)) < nI a) = ((@OfNat.ofNat Nat b (instOfNatNat b)) < a) := n_lt hb ha
theorem n_Ole {a b : Nat} (ha : a < 2147483648) (hb : (@OfNat.ofNat Nat b (instOfNatNat b)) < 2147483648) : ((no_index (OfNat.ofNat b : Int32)) ≤ nI a) = ((@OfNat.ofNat Nat b (instOfNatNat b)) ≤ a) := n_le hb ha
theorem n_add {a b : Nat} : nI a + nI b = nI (a + b) := nI_add a b
theorem n_addO {a b : Nat} : nI a + (no_index (OfNat.ofNat b : Int32)) = nI (a + (@OfNat.ofNat Nat b (instOfNatNat b))) := nI_add a b
theorem n_Oadd {a b : Nat} : (no_index (OfNat.ofNat b : Int32)) + nI a = nI ((@OfNat.ofNat Nat b (instOfNatNat b)) + a) := nI_add b a
theorem n_mul {a b : Nat} : nI a * nI b = nI (a * b) := pk_mul a b
theorem n_mulO {a b : Nat} : nI a * (no_index (OfNat.ofNat b : Int32)) = nI (a * (@OfNat.ofNat Nat b (instOfNatNat b))) := pk_mul a b
theorem n_Omul {a b : Nat} : (no_index (OfNat.ofNat b : Int32)) * nI a = nI ((@OfNat.ofNat Nat b (instOfNatNat b)) * a) := pk_mul b a
theorem n_sub {a b : Nat} (h : b ≤ a) : nI a - nI b = nI (a - b) := pk_sub h
theorem n_subO {a b : Nat} (h : (@OfNat.ofNat Nat b (instOfNatNat b)) ≤ a) : nI a - (no_index (OfNat.ofNat b : Int32)) = nI (a - (@OfNat.ofNat Nat b (instOfNatNat b))) := pk_sub h
theorem n_cl {a : Nat} (h : a < 2147483648) : (nI a).toNatClampNeg = a := nI_clamp h
theorem n_clO {a : Nat} (h : (@OfNat.ofNat Nat a (instOfNatNat a)) < 2147483648) : (no_index (OfNat.ofNat a : Int32)).toNatClampNeg = (@OfNat.ofNat Nat a (instOfNatNat a)) := nI_clamp h
theorem n_ix {a n : Nat} (h : a < n) (hn : a < 2147483648) : am_ix (nI a) n = True := eq_true ⟨nI_pos' hn, by rw [nI_clamp hn]; exact h⟩
theorem n_ixO {a n : Nat} (h : (@OfNat.ofNat Nat a (instOfNatNat a)) < n) (hn : (@OfNat.ofNat Nat a (instOfNatNat a)) < 2147483648) : am_ix (no_index (OfNat.ofNat a : Int32)) n = True := n_ix h hn
/-- an int in a range of indices, or not -/
theorem in_cases (x : Int32) (n : Nat) (hn : n < 2147483648) : (∃ k, k < n ∧ x = nI k) ∨ ¬ (0 ≤ x ∧ x ≤ nI n - 1) := by
  by_cases h : 0 ≤ x ∧ x ≤ nI n - 1
  · left
    obtain ⟨k, hk, rfl⟩ := nI_of (x := x) (by rw [nt_le]; exact h.1)
    refine ⟨k, ?_, rfl⟩
    cases n with
    | zero => exact absurd (Int32.le_trans h.1 h.2) (by decide)
    | succ n =>
      have := h.2
      rw [nI_pred, nI_leI hk (by omega)] at this
      omega
  · exact Or.inr h
theorem in_lit (x : Int32) (n : Nat) (hn : n < 2147483648) : (∃ k, k ≤ n ∧ x = nI k) ∨ ¬ (0 ≤ x ∧ x ≤ nI n) := by
  by_cases h : 0 ≤ x ∧ x ≤ nI n
  · left
    obtain ⟨k, hk, rfl⟩ := nI_of (x := x) (by rw [nt_le]; exact h.1)
    exact ⟨k, by have := h.2; rw [nI_leI hk hn] at this; exact this, rfl⟩
  · exact Or.inr h
theorem in_T {k n : Nat} (h : k < n) (hn : n < 2147483648) : (0 ≤ nI k ∧ nI k ≤ nI n - 1) = True := by
  refine eq_true ⟨nI_pos' (by omega), ?_⟩
  cases n with
  | zero => omega
  | succ n => rw [nI_pred]; exact nI_le (by omega) (by omega)
theorem p_max {x y : Int32} {h : am_H} : am_prim 9004 [vi x, vi y] h = some (some (vi (if x < y then y else x)), h) := rfl
theorem p_min {x y : Int32} {h : am_H} : am_prim 9005 [vi x, vi y] h = some (some (vi (if y < x then y else x)), h) := rfl
theorem p_abs {x : Int32} {h : am_H} : am_prim 9006 [vi x] h = some (some (vi (if 0 ≤ x then x else 0 - x)), h) := rfl
theorem p_cpy {a b : Nat} {i k n : Int32} {h : am_H} : am_prim 9002 [vr (some a), vi i, vr (some b), vi k, vi n] h = if hkd h a = 100 ∧ hkd h b = 100 ∧ 0 ≤ i ∧ 0 ≤ k ∧ 0 ≤ n ∧ i.toNatClampNeg + n.toNatClampNeg ≤ hln h a ∧ k.toNatClampNeg + n.toNatClampNeg ≤ hln h b then some (none, cpyI h a i.toNatClampNeg b k.toNatClampNeg n.toNatClampNeg) else none := rfl
theorem p_ckx {x y : Int32} {h : am_H} : am_prim 9003 [vi x, vi y] h = if 0 ≤ x ∧ x < y then some (none, h) else none := rfl
theorem mg_i {c : Prop} [Decidable c] {a b : Int32} {h : am_H} : (if c then some (some (vi a), h) else some (some (vi b), h)) = some (some (vi (if c then a else b)), h) := by split <;> rfl
theorem mg_r {c : Prop} [Decidable c] {a b : Option Nat} {h : am_H} : (if c then some (some (vr a), h) else some (some (vr b), h)) = some (some (vr (if c then a else b)), h) := by split <;> rfl
theorem mg_l {c : Prop} [Decidable c] {a b : Int64} {h : am_H} : (if c then some (some (vl a), h) else some (some (vl b), h)) = some (some (vl (if c then a else b)), h) := by split <;> rfl
theorem mg_b {c e : Prop} [Decidable c] [Decidable e] : (if c then bI e else 0) = bI (c ∧ e) := by
  by_cases q : c
  · rw [if_pos q]; exact bI_cg ⟨fun w => ⟨q, w⟩, fun w => w.2⟩
  · rw [if_neg q, bI_F (fun w => q w.1)]
theorem mg_b1 {c e : Prop} [Decidable c] [Decidable e] : (if c then 1 else bI e) = bI (c ∨ e) := by
  by_cases q : c
  · rw [if_pos q, bI_T (Or.inl q)]
  · rw [if_neg q]; exact bI_cg ⟨Or.inr, fun w => w.resolve_left q⟩
theorem mg_b0 {c e : Prop} [Decidable c] [Decidable e] : (if c then 0 else bI e) = bI (¬ c ∧ e) := by
  by_cases q : c
  · rw [if_pos q, bI_F (fun w => w.1 q)]
  · rw [if_neg q]; exact bI_cg ⟨fun w => ⟨q, w⟩, fun w => w.2⟩
theorem mg_10 {c : Prop} [Decidable c] : (if c then (1 : Int32) else 0) = bI c := rfl
theorem mg_01 {c : Prop} [Decidable c] : (if c then (0 : Int32) else 1) = bI (¬ c) := by
  by_cases q : c
  · rw [if_pos q, bI_F (fun w => w q)]
  · rw [if_neg q, bI_T q]
theorem mg_ev {c : Prop} [Decidable c] {d M pc : Nat} {ls st : List am_V} {a b : Int32} {h : am_H} : (if c then Ev d M pc ls (vi a :: st) h else Ev d M pc ls (vi b :: st) h) = Ev d M pc ls (vi (if c then a else b) :: st) h := by split <;> rfl
theorem mg_evl {c : Prop} [Decidable c] {d M pc : Nat} {ls st : List am_V} {a b : Int64} {h : am_H} : (if c then Ev d M pc ls (vl a :: st) h else Ev d M pc ls (vl b :: st) h) = Ev d M pc ls (vl (if c then a else b) :: st) h := by split <;> rfl
theorem if_and {c e : Prop} [Decidable c] [Decidable e] {α : Type} {a b : α} : (if c then (if e then a else b) else b) = if c ∧ e then a else b := by
  by_cases q : c
  · rw [if_pos q]
    by_cases w : e
    · rw [if_pos w, if_pos ⟨q, w⟩]
    · rw [if_neg w, if_neg (fun z => w z.2)]
  · rw [if_neg q, if_neg (fun z => q z.1)]
theorem if_or {c e : Prop} [Decidable c] [Decidable e] {α : Type} {a b : α} : (if c then a else (if e then a else b)) = if c ∨ e then a else b := by
  by_cases q : c
  · rw [if_pos q, if_pos (Or.inl q)]
  · rw [if_neg q]
    by_cases w : e
    · rw [if_pos w, if_pos (Or.inr w)]
    · rw [if_neg w, if_neg (fun z => z.elim q w)]
theorem bI_True : bI True = 1 := rfl
theorem bI_False : bI False = 0 := rfl
