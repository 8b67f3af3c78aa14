/-! what the two constructors made: kinds, lengths, references by name (0: none told); literals from 1000000 on -/
def sh_kt : List Nat := [999, 0, 1, 100, 105, 100, 100, 118, 119, 120, 2, 3, 100, 100, 100, 100, 100, 117, 100, 4, 100, 100, 100, 100, 100, 101, 105, 100, 100, 100, 100, 100, 100, 100, 100, 5, 105, 100, 100, 100, 100, 100, 100, 101, 116, 6, 100, 6, 100, 6, 100, 6, 100]
def sh_lt : List Nat := [0, 0, 0, 5, 2, 5, 5, 8, 6, 40, 0, 0, 160, 161, 161, 161, 160, 6, 6, 0, 40, 40, 40, 40, 40, 6, 6, 181, 181, 181, 181, 181, 181, 3, 40, 0, 2, 5, 5, 8, 6, 6, 6, 40, 4, 0, 40, 0, 40, 0, 40, 0, 40]
def sh_rt : List (List Nat) := [[], [2, 7, 8, 9, 0, 0, 0, 0, 10, 11, 17, 0, 0, 18, 19, 33, 34, 0, 35, 44], [3, 4], [], [5, 6], [], [], [], [], [], [11, 0, 16], [12, 0, 13, 14, 15], [], [], [], [], [], [], [], [20, 21, 22, 0, 23, 24, 25, 26], [], [], [], [], [], [], [27, 28, 29, 30, 31, 32], [], [], [], [], [], [], [], [], [0, 0, 0, 0, 0, 36, 39, 40, 41, 42, 43], [37, 38], [], [], [], [], [], [], [], [45, 47, 49, 51], [46], [], [48], [], [50], [], [52], []]
def sm_kt : List Nat := [999, 999, 999, 999, 999, 999, 999, 999, 999, 999, 999, 999, 999, 999, 999, 999, 999, 999, 999, 999, 999, 999, 999, 999, 999, 999, 999, 999, 999, 999, 999, 999, 999, 999, 999, 999, 999, 999, 999, 999, 999, 999, 999, 999, 999, 999, 999, 999, 999, 999, 999, 999, 999, 999, 999, 999, 11, 100, 100, 100, 100, 100, 100, 100, 100, 100, 100, 100, 100, 100, 100, 100, 101, 100, 100, 100, 100, 100, 100, 100, 100, 101, 100, 100, 100, 102, 100, 100, 100]
def sm_lt : List Nat := [0, 0, 0, 0, 0, 0, 0, 0, 0, 0, 0, 0, 0, 0, 0, 0, 0, 0, 0, 0, 0, 0, 0, 0, 0, 0, 0, 0, 0, 0, 0, 0, 0, 0, 0, 0, 0, 0, 0, 0, 0, 0, 0, 0, 0, 0, 0, 0, 0, 0, 0, 0, 0, 0, 0, 0, 0, 5, 10, 8, 8, 8, 6, 6, 6, 40, 40, 40, 40, 40, 40, 40, 40, 160, 1200, 24, 10, 8, 6, 6, 6, 40, 4, 4, 160, 11, 200, 200, 40]
def sm_rt : List (List Nat) := [[], [], [], [], [], [], [], [], [], [], [], [], [], [], [], [], [], [], [], [], [], [], [], [], [], [], [], [], [], [], [], [], [], [], [], [], [], [], [], [], [], [], [], [], [], [], [], [], [], [], [], [], [], [], [], [], [0, 0, 57, 58, 0, 59, 60, 61, 0, 62, 63, 64, 0, 65, 66, 67, 68, 69, 70, 71, 72, 73, 0, 74, 75, 0, 0, 0, 0, 0, 0, 0, 0, 0, 0, 0, 76, 77, 78, 79, 80, 81, 82, 83, 84, 0, 0, 0, 0, 85, 86, 0, 0, 0, 87, 88], [], [], [], [], [], [], [], [], [], [], [], [], [], [], [], [], [], [], [], [], [], [], [], [], [], [], [], [], [], [], [], []]
def kd0 (n : Nat) : Nat := if 1000000 ≤ n ∧ n < 1000028 then (if n % 2 = 0 then 902 else 903) else sh_kt.getD n 999
def ln0 (n : Nat) : Nat := if 1000000 ≤ n ∧ n < 1000028 then am_sl.getD ((n - 1000001) / 2) 0 else sh_lt.getD n 0
def rf0 (n f : Nat) : Nat := if 1000000 ≤ n ∧ n < 1000028 then (if n % 2 = 0 then n + 1 else 0) else (sh_rt.getD n []).getD f 0
def km0 (n : Nat) : Nat := sm_kt.getD n 999
def lm0 (n : Nat) : Nat := sm_lt.getD n 0
def rg0 (n f : Nat) : Nat := (sm_rt.getD n []).getD f 0
/-- the class's part has its shape -/
def Sh (h : am_H) : Prop := 52 ≤ hk h ∧ (∀ n, kd0 n ≠ 999 → hkd h n = kd0 n ∧ hln h n = ln0 n) ∧ ∀ n f, rf0 n f ≠ 0 → hR h n f = some (rf0 n f)
/-- the model's part has its shape -/
def Sm (h : am_H) : Prop := 88 ≤ hk h ∧ (∀ n, km0 n ≠ 999 → hkd h n = km0 n ∧ hln h n = lm0 n) ∧ ∀ n f, rg0 n f ≠ 0 → hR h n f = some (rg0 n f)
theorem Sh.kd {h : am_H} (S : Sh h) {n k : Nat} (e : kd0 n = k) (hk : Nat.beq k 999 = false) : hkd h n = k := (S.2.1 n (fun q => by rw [e.symm.trans q] at hk; cases hk)).1.trans e
theorem Sh.ln {h : am_H} (S : Sh h) {n k : Nat} (e : Nat.beq (kd0 n) 999 = false) (e2 : ln0 n = k) : hln h n = k := (S.2.1 n (fun q => by rw [q] at e; cases e)).2.trans e2
theorem Sh.rf {h : am_H} (S : Sh h) {n f k : Nat} (e : rf0 n f = k) (hk : Nat.beq k 0 = false) : hR h n f = some k := (S.2.2 n f (fun q => by rw [e.symm.trans q] at hk; cases hk)).trans (congrArg some e)
theorem Sm.kd {h : am_H} (S : Sm h) {n k : Nat} (e : km0 n = k) (hk : Nat.beq k 999 = false) : hkd h n = k := (S.2.1 n (fun q => by rw [e.symm.trans q] at hk; cases hk)).1.trans e
theorem Sm.ln {h : am_H} (S : Sm h) {n k : Nat} (e : Nat.beq (km0 n) 999 = false) (e2 : lm0 n = k) : hln h n = k := (S.2.1 n (fun q => by rw [q] at e; cases e)).2.trans e2
theorem Sm.rf {h : am_H} (S : Sm h) {n f k : Nat} (e : rg0 n f = k) (hk : Nat.beq k 0 = false) : hR h n f = some k := (S.2.2 n f (fun q => by rw [e.symm.trans q] at hk; cases hk)).trans (congrArg some e)
section SOPS
variable {d M pc pc' len p r1 r2 n L : Nat} {z : Int} {cs : List (Int × Nat)} {ls ls' st : List am_V} {h : am_H} {i : Nat}
theorem sop_getI (hc : am_code M pc = some (.getfield i, len, p, r1, r2, z, cs)) (hp : pc + len = pc') (h1 : r1 ≠ 902) (hf : am_ft r1 r2 = 0 ∨ am_ft r1 r2 = 3) (hk : hkd h n = r1) : Ev d M pc ls (vr (some n) :: st) h = Ev d M pc' ls (vi (hI h n r2) :: st) h := by rw [op_getI hc hp h1 hf]; exact if_pos hk
theorem sop_getL (hc : am_code M pc = some (.getfield i, len, p, r1, r2, z, cs)) (hp : pc + len = pc') (h1 : r1 ≠ 902) (hf : am_ft r1 r2 = 1) (hk : hkd h n = r1) : Ev d M pc ls (vr (some n) :: st) h = Ev d M pc' ls (vl (hL h n r2) :: st) h := by rw [op_getL hc hp h1 hf]; exact if_pos hk
theorem sop_getR {x : Option Nat} (hc : am_code M pc = some (.getfield i, len, p, r1, r2, z, cs)) (hp : pc + len = pc') (h1 : r1 ≠ 902) (hf : am_ft r1 r2 = 2) (hk : hkd h n = r1) (hr : hR h n r2 = x) : Ev d M pc ls (vr (some n) :: st) h = Ev d M pc' ls (vr x :: st) h := by rw [op_getR hc hp h1 hf, ← hr]; exact if_pos hk
theorem sop_getSV {x : Option Nat} (hc : am_code M pc = some (.getfield i, len, p, 902, 0, z, cs)) (hp : pc + len = pc') (hk : hkd h n = 902) (hr : hR h n 0 = x) : Ev d M pc ls (vr (some n) :: st) h = Ev d M pc' ls (vr x :: st) h := by rw [op_getSV hc hp, ← hr]; exact if_pos hk
theorem sop_getSC (hc : am_code M pc = some (.getfield i, len, p, 902, 1, z, cs)) (hp : pc + len = pc') (hk : hkd h n = 902) : Ev d M pc ls (vr (some n) :: st) h = Ev d M pc' ls (vi (hI h n 1) :: st) h := by rw [op_getSC hc hp]; exact if_pos hk
theorem sop_putI {x : Int32} (hc : am_code M pc = some (.putfield i, len, p, r1, r2, z, cs)) (hp : pc + len = pc') (hf : am_ft r1 r2 = 0) (hk : hkd h n = r1) : Ev d M pc ls (vi x :: vr (some n) :: st) h = Ev d M pc' ls st (setI h n r2 x) := by rw [op_putI hc hp hf]; exact if_pos hk
theorem sop_putZ {x : Int32} (hc : am_code M pc = some (.putfield i, len, p, r1, r2, z, cs)) (hp : pc + len = pc') (hf : am_ft r1 r2 = 3) (hk : hkd h n = r1) : Ev d M pc ls (vi x :: vr (some n) :: st) h = if x = 0 ∨ x = 1 then Ev d M pc' ls st (setI h n r2 x) else none := by
  rw [op_putZ hc hp hf]
  show (if _ then _ else _) = _
  split
  · rename_i q; rw [if_pos q.2]
  · rename_i q; rw [if_neg (fun w => q ⟨hk, w⟩)]
theorem sop_putZc {x : Int32} (hc : am_code M pc = some (.putfield i, len, p, r1, r2, z, cs)) (hp : pc + len = pc') (hf : am_ft r1 r2 = 3) (hk : hkd h n = r1) (hx : x = 0 ∨ x = 1) : Ev d M pc ls (vi x :: vr (some n) :: st) h = Ev d M pc' ls st (setI h n r2 x) := by rw [op_putZ hc hp hf]; exact if_pos ⟨hk, hx⟩
theorem sop_putL {x : Int64} (hc : am_code M pc = some (.putfield i, len, p, r1, r2, z, cs)) (hp : pc + len = pc') (hf : am_ft r1 r2 = 1) (hk : hkd h n = r1) : Ev d M pc ls (vl x :: vr (some n) :: st) h = Ev d M pc' ls st (setL h n r2 x) := by rw [op_putL hc hp hf]; exact if_pos hk
theorem sop_putR {x : Option Nat} (hc : am_code M pc = some (.putfield i, len, p, r1, r2, z, cs)) (hp : pc + len = pc') (hf : am_ft r1 r2 = 2) (hk : hkd h n = r1) : Ev d M pc ls (vr x :: vr (some n) :: st) h = Ev d M pc' ls st (setR h n r2 x) := by rw [op_putR hc hp hf]; exact if_pos hk
theorem sop_iaload {k : Int32} (hc : am_code M pc = some (.iaload, len, p, r1, r2, z, cs)) (hp : pc + len = pc') (hk : hkd h n = 100) (hl : hln h n = L) : Ev d M pc ls (vi k :: vr (some n) :: st) h = if am_ix k L then Ev d M pc' ls (vi (hI h n k.toNatClampNeg) :: st) h else none := by
  rw [op_iaload hc hp, ← hl]
  show (if _ then _ else _) = _
  split
  · rename_i q; rw [if_pos q.2]
  · rename_i q; rw [if_neg (fun w => q ⟨Or.inl hk, w⟩)]
theorem sop_baload {k : Int32} {K : Nat} (hc : am_code M pc = some (.baload, len, p, r1, r2, z, cs)) (hp : pc + len = pc') (hk : hkd h n = K) (hK : K = 101 ∨ K = 903) (hl : hln h n = L) : Ev d M pc ls (vi k :: vr (some n) :: st) h = if am_ix k L then Ev d M pc' ls (vi (hI h n k.toNatClampNeg) :: st) h else none := by
  rw [op_baload hc hp, ← hl]
  subst hk
  show (if _ then _ else _) = _
  split
  · rename_i q; rw [if_pos q.2]
  · rename_i q; rw [if_neg (fun w => q ⟨hK, w⟩)]
theorem sop_laload {k : Int32} (hc : am_code M pc = some (.laload, len, p, r1, r2, z, cs)) (hp : pc + len = pc') (hk : hkd h n = 102) (hl : hln h n = L) : Ev d M pc ls (vi k :: vr (some n) :: st) h = if am_ix k L then Ev d M pc' ls (vl (hL h n k.toNatClampNeg) :: st) h else none := by
  rw [op_laload hc hp, ← hl]
  show (if _ then _ else _) = _
  split
  · rename_i q; rw [if_pos q.2]
  · rename_i q; rw [if_neg (fun w => q ⟨hk, w⟩)]
theorem sop_aaload {k : Int32} {K : Nat} (hc : am_code M pc = some (.aaload, len, p, r1, r2, z, cs)) (hp : pc + len = pc') (hk : hkd h n = K) (hK : (Nat.ble 105 K && Nat.ble (K + 1) 200) = true) (hl : hln h n = L) : Ev d M pc ls (vi k :: vr (some n) :: st) h = if am_ix k L then Ev d M pc' ls (vr (hR h n k.toNatClampNeg) :: st) h else none := by
  rw [op_aaload hc hp, ← hl]
  subst hk
  rw [Bool.and_eq_true] at hK
  show (if _ then _ else _) = _
  split
  · rename_i q; rw [if_pos q.2]
  · rename_i q; rw [if_neg (fun w => q ⟨⟨Nat.le_of_ble_eq_true hK.1, Nat.le_of_ble_eq_true hK.2⟩, w⟩)]
theorem sop_iastore {k x : Int32} (hc : am_code M pc = some (.iastore, len, p, r1, r2, z, cs)) (hp : pc + len = pc') (hk : hkd h n = 100) (hl : hln h n = L) : Ev d M pc ls (vi x :: vi k :: vr (some n) :: st) h = if am_ix k L then Ev d M pc' ls st (setI h n k.toNatClampNeg x) else none := by
  rw [op_iastore hc hp, ← hl]
  show (if _ then _ else _) = _
  split
  · rename_i q; rw [if_pos q.2]
  · rename_i q; rw [if_neg (fun w => q ⟨hk, w⟩)]
theorem sop_bastore {k x : Int32} (hc : am_code M pc = some (.bastore, len, p, r1, r2, z, cs)) (hp : pc + len = pc') (hk : hkd h n = 101) (hl : hln h n = L) : Ev d M pc ls (vi x :: vi k :: vr (some n) :: st) h = if am_ix k L ∧ (x = 0 ∨ x = 1) then Ev d M pc' ls st (setI h n k.toNatClampNeg x) else none := by
  rw [op_bastore hc hp, ← hl]
  show (if _ then _ else _) = _
  split
  · rename_i q; rw [if_pos q.2]
  · rename_i q; rw [if_neg (fun w => q ⟨hk, w⟩)]
theorem sop_bastorec {k x : Int32} (hc : am_code M pc = some (.bastore, len, p, r1, r2, z, cs)) (hp : pc + len = pc') (hk : hkd h n = 101) (hl : hln h n = L) (hx : x = 0 ∨ x = 1) : Ev d M pc ls (vi x :: vi k :: vr (some n) :: st) h = if am_ix k L then Ev d M pc' ls st (setI h n k.toNatClampNeg x) else none := by
  rw [sop_bastore hc hp hk hl]
  by_cases q : am_ix k L
  · rw [if_pos q, if_pos ⟨q, hx⟩]
  · rw [if_neg q, if_neg (fun w => q w.1)]
theorem op_putZc {r : Option Nat} {x : Int32} (hc : am_code M pc = some (.putfield i, len, p, r1, r2, z, cs)) (hp : pc + len = pc') (hf : am_ft r1 r2 = 3) (hx : x = 0 ∨ x = 1) : Ev d M pc ls (vi x :: vr r :: st) h = r.bind fun n => if hkd h n = r1 then Ev d M pc' ls st (setI h n r2 x) else none := by
  rw [op_putZ hc hp hf]
  refine op_bind fun n => ?_
  by_cases q : hkd h n = r1
  · rw [if_pos q, if_pos ⟨q, hx⟩]
  · rw [if_neg q, if_neg (fun w => q w.1)]
theorem sop_lastore {k : Int32} {x : Int64} (hc : am_code M pc = some (.lastore, len, p, r1, r2, z, cs)) (hp : pc + len = pc') (hk : hkd h n = 102) (hl : hln h n = L) : Ev d M pc ls (vl x :: vi k :: vr (some n) :: st) h = if am_ix k L then Ev d M pc' ls st (setL h n k.toNatClampNeg x) else none := by
  rw [op_lastore hc hp, ← hl]
  show (if _ then _ else _) = _
  split
  · rename_i q; rw [if_pos q.2]
  · rename_i q; rw [if_neg (fun w => q ⟨hk, w⟩)]
theorem sop_aastore {k : Int32} {w : Option Nat} {K : Nat} (hc : am_code M pc = some (.aastore, len, p, r1, r2, z, cs)) (hp : pc + len = pc') (hk : hkd h n = K) (hK : (Nat.ble 110 K && Nat.ble (K + 1) 190) = true) (hl : hln h n = L) : Ev d M pc ls (vr w :: vi k :: vr (some n) :: st) h = w.bind fun v => if hkd h v + 110 = K ∧ am_ix k L then Ev d M pc' ls st (setR h n k.toNatClampNeg (some v)) else none := by
  rw [op_aastore hc hp, ← hl]
  subst hk
  rw [Bool.and_eq_true] at hK
  show w.bind _ = w.bind _
  refine op_bind fun v => ?_
  by_cases q : hkd h v + 110 = hkd h n ∧ am_ix k (hln h n)
  · rw [if_pos q]; exact if_pos ⟨⟨Nat.le_of_ble_eq_true hK.1, Nat.le_of_ble_eq_true hK.2⟩, q⟩
  · rw [if_neg q]; exact if_neg (fun w => q w.2)
theorem sop_arraylength {K : Nat} (hc : am_code M pc = some (.arraylength, len, p, r1, r2, z, cs)) (hp : pc + len = pc') (hk : hkd h n = K) (hK : (Nat.ble 100 K && Nat.ble (K + 1) 200 || Nat.beq K 901 || Nat.beq K 903) = true) (hl : hln h n = L) : Ev d M pc ls (vr (some n) :: st) h = Ev d M pc' ls (vi (nI L) :: st) h := by
  rw [op_arraylength hc hp, ← hl]
  subst hk
  refine if_pos ?_
  rw [Bool.or_eq_true, Bool.or_eq_true, Bool.and_eq_true] at hK
  rcases hK with (hK | hK) | hK
  · exact Or.inl ⟨Nat.le_of_ble_eq_true hK.1, Nat.le_of_ble_eq_true hK.2⟩
  · exact Or.inr (Or.inl (Nat.eq_of_beq_eq_true hK))
  · exact Or.inr (Or.inr (Nat.eq_of_beq_eq_true hK))
theorem sop_special {as st' : List am_V} (hc : am_code M pc = some (.invokespecial i, len, p, r1, r2, z, cs)) (hp : pc + 3 = pc') (hj : Nat.ble 9000 r1 = false) (hr : st[r2]? = some (vr (some n))) (ha : (st.take (r2 + 1)).reverse = as) (hb : st.drop (r2 + 1) = st') (hl : Nat.ble st'.length 4 = true) : Ev (d + 1) M pc ls st h = (Cl d r1 as h).bind fun x => Ev (d + 1) M pc' ls (x.1.toList ++ st') x.2 := by rw [op_special hc hp hj hr ha hb hl]; rfl
theorem sop_virtual {as st' : List am_V} {m : Nat} (hc : am_code M pc = some (.invokevirtual i, len, p, r1, r2, z, cs)) (hp : pc + 3 = pc') (hm : am_mc r1 = m) (hj : Nat.ble 9000 r1 = false) (hr : st[r2]? = some (vr (some n))) (ha : (st.take (r2 + 1)).reverse = as) (hb : st.drop (r2 + 1) = st') (hl : Nat.ble st'.length 4 = true) (hk : hkd h n = m) : Ev (d + 1) M pc ls st h = (Cl d r1 as h).bind fun x => Ev (d + 1) M pc' ls (x.1.toList ++ st') x.2 := by rw [op_virtual hc hp hm hj hr ha hb hl]; exact if_pos hk
theorem sop_ialoadS {k : Int32} (hc : am_code M pc = some (.iaload, len, p, r1, r2, z, cs)) (hp : pc + len = pc') (hk : hkd h n = 901) (hl : hln h n = L) : Ev d M pc ls (vi k :: vr (some n) :: st) h = if am_ix k L then Ev d M pc' ls (vi (hI h n k.toNatClampNeg) :: st) h else none := by
  rw [op_iaload hc hp, ← hl]
  show (if _ then _ else _) = _
  split
  · rename_i q; rw [if_pos q.2]
  · rename_i q; rw [if_neg (fun w => q ⟨Or.inr hk, w⟩)]
theorem sop_arraylengthS (hc : am_code M pc = some (.arraylength, len, p, r1, r2, z, cs)) (hp : pc + len = pc') (hk : hkd h n = 901) (hl : hln h n = L) : Ev d M pc ls (vr (some n) :: st) h = Ev d M pc' ls (vi (nI L) :: st) h := by
  rw [op_arraylength hc hp, ← hl]
  exact if_pos (Or.inr (Or.inl hk))
end SOPS
