/-! blocks: what a run comes to from one place to the next -/
theorem k32_m1000000002 : Int32.ofInt (-1000000002) = (-1000000002) := by decide
theorem k32_m1000000001 : Int32.ofInt (-1000000001) = (-1000000001) := by decide
theorem k32_m1000000000 : Int32.ofInt (-1000000000) = (-1000000000) := by decide
theorem k32_m2000 : Int32.ofInt (-2000) = (-2000) := by decide
theorem k32_m1000 : Int32.ofInt (-1000) = (-1000) := by decide
theorem k32_m132 : Int32.ofInt (-132) = (-132) := by decide
theorem k32_m131 : Int32.ofInt (-131) = (-131) := by decide
theorem k32_m130 : Int32.ofInt (-130) = (-130) := by decide
theorem k32_m100 : Int32.ofInt (-100) = (-100) := by decide
theorem k32_m99 : Int32.ofInt (-99) = (-99) := by decide
theorem k32_m42 : Int32.ofInt (-42) = (-42) := by decide
theorem k32_m14 : Int32.ofInt (-14) = (-14) := by decide
theorem k32_m13 : Int32.ofInt (-13) = (-13) := by decide
theorem k32_m12 : Int32.ofInt (-12) = (-12) := by decide
theorem k32_m11 : Int32.ofInt (-11) = (-11) := by decide
theorem k32_m7 : Int32.ofInt (-7) = (-7) := by decide
theorem k32_m5 : Int32.ofInt (-5) = (-5) := by decide
theorem k32_m4 : Int32.ofInt (-4) = (-4) := by decide
theorem k32_m3 : Int32.ofInt (-3) = (-3) := by decide
theorem k32_m2 : Int32.ofInt (-2) = (-2) := by decide
theorem k32_m1 : Int32.ofInt (-1) = (-1) := by decide
theorem k32_0 : Int32.ofInt 0 = 0 := by decide
theorem k32_1 : Int32.ofInt 1 = 1 := by decide
theorem k32_2 : Int32.ofInt 2 = 2 := by decide
theorem k32_3 : Int32.ofInt 3 = 3 := by decide
theorem k32_4 : Int32.ofInt 4 = 4 := by decide
theorem k32_5 : Int32.ofInt 5 = 5 := by decide
theorem k32_6 : Int32.ofInt 6 = 6 := by decide
theorem k32_7 : Int32.ofInt 7 = 7 := by decide
theorem k32_8 : Int32.ofInt 8 = 8 := by decide
theorem k32_9 : Int32.ofInt 9 = 9 := by decide
theorem k32_10 : Int32.ofInt 10 = 10 := by decide
theorem k32_11 : Int32.ofInt 11 = 11 := by decide
theorem k32_12 : Int32.ofInt 12 = 12 := by decide
theorem k32_13 : Int32.ofInt 13 = 13 := by decide
theorem k32_14 : Int32.ofInt 14 = 14 := by decide
theorem k32_15 : Int32.ofInt 15 = 15 := by decide
theorem k32_16 : Int32.ofInt 16 = 16 := by decide
theorem k32_17 : Int32.ofInt 17 = 17 := by decide
theorem k32_18 : Int32.ofInt 18 = 18 := by decide
theorem k32_19 : Int32.ofInt 19 = 19 := by decide
theorem k32_20 : Int32.ofInt 20 = 20 := by decide
theorem k32_21 : Int32.ofInt 21 = 21 := by decide
theorem k32_22 : Int32.ofInt 22 = 22 := by decide
theorem k32_23 : Int32.ofInt 23 = 23 := by decide
theorem k32_24 : Int32.ofInt 24 = 24 := by decide
theorem k32_25 : Int32.ofInt 25 = 25 := by decide
theorem k32_26 : Int32.ofInt 26 = 26 := by decide
theorem k32_27 : Int32.ofInt 27 = 27 := by decide
theorem k32_28 : Int32.ofInt 28 = 28 := by decide
theorem k32_29 : Int32.ofInt 29 = 29 := by decide
theorem k32_30 : Int32.ofInt 30 = 30 := by decide
theorem k32_31 : Int32.ofInt 31 = 31 := by decide
theorem k32_32 : Int32.ofInt 32 = 32 := by decide
theorem k32_33 : Int32.ofInt 33 = 33 := by decide
theorem k32_35 : Int32.ofInt 35 = 35 := by decide
theorem k32_39 : Int32.ofInt 39 = 39 := by decide
theorem k32_40 : Int32.ofInt 40 = 40 := by decide
theorem k32_41 : Int32.ofInt 41 = 41 := by decide
theorem k32_42 : Int32.ofInt 42 = 42 := by decide
theorem k32_43 : Int32.ofInt 43 = 43 := by decide
theorem k32_45 : Int32.ofInt 45 = 45 := by decide
theorem k32_48 : Int32.ofInt 48 = 48 := by decide
theorem k32_57 : Int32.ofInt 57 = 57 := by decide
theorem k32_59 : Int32.ofInt 59 = 59 := by decide
theorem k32_60 : Int32.ofInt 60 = 60 := by decide
theorem k32_61 : Int32.ofInt 61 = 61 := by decide
theorem k32_63 : Int32.ofInt 63 = 63 := by decide
theorem k32_80 : Int32.ofInt 80 = 80 := by decide
theorem k32_90 : Int32.ofInt 90 = 90 := by decide
theorem k32_97 : Int32.ofInt 97 = 97 := by decide
theorem k32_99 : Int32.ofInt 99 = 99 := by decide
theorem k32_100 : Int32.ofInt 100 = 100 := by decide
theorem k32_122 : Int32.ofInt 122 = 122 := by decide
theorem k32_128 : Int32.ofInt 128 = 128 := by decide
theorem k32_129 : Int32.ofInt 129 = 129 := by decide
theorem k32_130 : Int32.ofInt 130 = 130 := by decide
theorem k32_131 : Int32.ofInt 131 = 131 := by decide
theorem k32_132 : Int32.ofInt 132 = 132 := by decide
theorem k32_133 : Int32.ofInt 133 = 133 := by decide
theorem k32_134 : Int32.ofInt 134 = 134 := by decide
theorem k32_135 : Int32.ofInt 135 = 135 := by decide
theorem k32_136 : Int32.ofInt 136 = 136 := by decide
theorem k32_137 : Int32.ofInt 137 = 137 := by decide
theorem k32_138 : Int32.ofInt 138 = 138 := by decide
theorem k32_139 : Int32.ofInt 139 = 139 := by decide
theorem k32_160 : Int32.ofInt 160 = 160 := by decide
theorem k32_161 : Int32.ofInt 161 = 161 := by decide
theorem k32_180 : Int32.ofInt 180 = 180 := by decide
theorem k32_181 : Int32.ofInt 181 = 181 := by decide
theorem k32_200 : Int32.ofInt 200 = 200 := by decide
theorem k32_255 : Int32.ofInt 255 = 255 := by decide
theorem k32_359 : Int32.ofInt 359 = 359 := by decide
theorem k32_360 : Int32.ofInt 360 = 360 := by decide
theorem k32_590 : Int32.ofInt 590 = 590 := by decide
theorem k32_600 : Int32.ofInt 600 = 600 := by decide
theorem k32_999 : Int32.ofInt 999 = 999 := by decide
theorem k32_1200 : Int32.ofInt 1200 = 1200 := by decide
theorem k32_9999 : Int32.ofInt 9999 = 9999 := by decide
theorem k32_99999 : Int32.ofInt 99999 = 99999 := by decide
theorem k32_100000 : Int32.ofInt 100000 = 100000 := by decide
theorem k32_100004 : Int32.ofInt 100004 = 100004 := by decide
theorem k32_100050 : Int32.ofInt 100050 = 100050 := by decide
theorem k32_100100 : Int32.ofInt 100100 = 100100 := by decide
theorem k32_9999999 : Int32.ofInt 9999999 = 9999999 := by decide
theorem k32_252645135 : Int32.ofInt 252645135 = 252645135 := by decide
theorem k32_858993459 : Int32.ofInt 858993459 = 858993459 := by decide
theorem k32_1000000000 : Int32.ofInt 1000000000 = 1000000000 := by decide
theorem k32_1431655765 : Int32.ofInt 1431655765 = 1431655765 := by decide
theorem k64_m4611686018427387904 : Int64.ofInt (-4611686018427387904) = (-4611686018427387904) := by decide
theorem k64_m4611686018427387903 : Int64.ofInt (-4611686018427387903) = (-4611686018427387903) := by decide
theorem k64_m4611686018427387902 : Int64.ofInt (-4611686018427387902) = (-4611686018427387902) := by decide
theorem k64_m3 : Int64.ofInt (-3) = (-3) := by decide
theorem k64_m2 : Int64.ofInt (-2) = (-2) := by decide
theorem k64_0 : Int64.ofInt 0 = 0 := by decide
theorem k64_1 : Int64.ofInt 1 = 1 := by decide
theorem k64_255 : Int64.ofInt 255 = 255 := by decide
theorem k64_28530 : Int64.ofInt 28530 = 28530 := by decide
theorem k64_6385252 : Int64.ofInt 6385252 = 6385252 := by decide
theorem k64_6709618 : Int64.ofInt 6709618 = 6709618 := by decide
theorem k64_7237492 : Int64.ofInt 7237492 = 7237492 := by decide
theorem k64_1667329132 : Int64.ofInt 1667329132 = 1667329132 := by decide
theorem k64_1802071652 : Int64.ofInt 1802071652 = 1802071652 := by decide
theorem k64_1818326117 : Int64.ofInt 1818326117 = 1818326117 := by decide
theorem k64_1952541541 : Int64.ofInt 1952541541 = 1952541541 := by decide
theorem k64_4294967295 : Int64.ofInt 4294967295 = 4294967295 := by decide
theorem k64_431198598248 : Int64.ofInt 431198598248 = 431198598248 := by decide
theorem k64_431416239732 : Int64.ofInt 431416239732 = 431416239732 := by decide
theorem k64_474315584357 : Int64.ofInt 474315584357 = 474315584357 := by decide
/-! 0 DrumWorldLaw.law([I)Z -/
theorem E_0 {d : Nat} {h : am_H} {a0 : Option Nat} : Cl d 0 [vr a0] h = Ev d 0 0 [vr a0, vu, vu, vu] [] h := if_pos (Nat.le_of_ble_eq_true rfl)
theorem B_0_0 {d : Nat} {h : am_H} {a0 : Option Nat} : Ev (d + 4) 0 0 [vr a0, vu, vu, vu] [] h = if hk h < 900000 then Ev (d + 4) 0 3 [vr a0, vu, vu, vu] [vr (some (hk h + 1))] (newc h 0 0 20) else none := by
  refine (op_new (pc' := 3) (k := 20) rfl rfl rfl).trans (op_ite ?_)
  rfl
theorem B_0_3 {d : Nat} {h : am_H} {a0 : Option Nat} {s0 : Option Nat} : Ev (d + 4) 0 3 [vr a0, vu, vu, vu] [vr s0] h = (s0).bind fun _ => (Cl (d + 3) 1 [vr s0] h).bind fun x => Ev (d + 4) 0 7 [vr a0, vu, vu, vu] (x.1.toList ++ [vr s0]) x.2 := by
  refine (op_dup (pc' := 4) rfl rfl rfl).trans ?_
  exact op_special (pc' := 7) rfl rfl rfl rfl rfl rfl rfl
theorem B_0_7 {d : Nat} {h : am_H} {a0 : Option Nat} {s0 : Option Nat} : Ev (d + 4) 0 7 [vr a0, vu, vu, vu] [vr s0] h = if hk h < 900000 then Ev (d + 4) 0 11 [vr a0, vr s0, vu, vu] [vr (some (hk h + 1))] (newc h 11 0 61) else none := by
  refine (op_astore_n (pc' := 8) (ls' := [vr a0, vr s0, vu, vu]) rfl rfl rfl rfl).trans ?_
  refine (op_new (pc' := 11) (k := 61) rfl rfl rfl).trans (op_ite ?_)
  rfl
theorem B_0_11 {d : Nat} {h : am_H} {a0 : Option Nat} {a1 : Option Nat} {s0 : Option Nat} : Ev (d + 4) 0 11 [vr a0, vr a1, vu, vu] [vr s0] h = (s0).bind fun _ => (Cl (d + 3) 145 [vr s0] h).bind fun x => Ev (d + 4) 0 15 [vr a0, vr a1, vu, vu] (x.1.toList ++ [vr s0]) x.2 := by
  refine (op_dup (pc' := 12) rfl rfl rfl).trans ?_
  exact op_special (pc' := 15) rfl rfl rfl rfl rfl rfl rfl
theorem B_0_15 {d : Nat} {h : am_H} {a0 : Option Nat} {a1 : Option Nat} {s0 : Option Nat} : Ev (d + 4) 0 15 [vr a0, vr a1, vu, vu] [vr s0] h = Ev (d + 4) 0 18 [vr a0, vr a1, vr s0, vi 0] [] h := by
  refine (op_astore_n (pc' := 16) (ls' := [vr a0, vr a1, vr s0, vu]) rfl rfl rfl rfl).trans ?_
  refine (op_iconst (pc' := 17) rfl rfl k32_0).trans ?_
  refine (op_istore_n (pc' := 18) (ls' := [vr a0, vr a1, vr s0, vi 0]) rfl rfl rfl rfl).trans ?_
  rfl
theorem B_0_18 {d : Nat} {h : am_H} {a0 : Option Nat} {a1 : Option Nat} {a2 : Option Nat} {a3 : Int32} : Ev (d + 4) 0 18 [vr a0, vr a1, vr a2, vi a3] [] h = (a0).bind fun n20 => if (100 ≤ hkd h n20 ∧ hkd h n20 < 200) ∨ hkd h n20 = 901 ∨ hkd h n20 = 903 then if ((nI (hln h n20)) - 6) < a3 then Ev (d + 4) 0 1427 [vr a0, vr a1, vr a2, vi a3] [] h else Ev (d + 4) 0 27 [vr a0, vr a1, vr a2, vi a3] [] h else none := by
  refine (op_iload_n (pc' := 19) rfl rfl rfl).trans ?_
  refine (op_aload_n (pc' := 20) rfl rfl rfl).trans ?_
  refine (op_arraylength (pc' := 21) rfl rfl).trans (op_bind fun n20 => op_ite ?_)
  refine (op_bipush (pc' := 23) rfl rfl k32_6).trans ?_
  refine (op_isub (pc' := 24) rfl rfl).trans ?_
  exact op_icmpgt (pc' := 27) rfl rfl
theorem B_0_27 {d : Nat} {h : am_H} {a0 : Option Nat} {a1 : Option Nat} {a2 : Option Nat} {a3 : Int32} : Ev (d + 4) 0 27 [vr a0, vr a1, vr a2, vi a3] [] h = (a0).bind fun n29 => if (hkd h n29 = 100 ∨ hkd h n29 = 901) ∧ am_ix a3 (hln h n29) then am_swE (d + 4) 0 [vr a0, vr a1, vr a2, vi a3] [] h ((hI h n29 (Int32.toNatClampNeg a3)) &&& 63) 1421 [(0, 184), (1, 227), (2, 270), (3, 313), (4, 346), (5, 389), (6, 422), (7, 465), (8, 488), (9, 541), (10, 574), (11, 607), (12, 650), (13, 713), (14, 726), (15, 749), (16, 793), (17, 837), (18, 871), (19, 925), (20, 959), (21, 982), (22, 1025), (23, 1048), (24, 1091), (25, 1104), (26, 1137), (27, 1160), (28, 1173), (29, 1186), (30, 1229), (31, 1272), (32, 1335), (33, 1388)] else none := by
  refine (op_aload_n (pc' := 28) rfl rfl rfl).trans ?_
  refine (op_iload_n (pc' := 29) rfl rfl rfl).trans ?_
  refine (op_iaload (pc' := 30) rfl rfl).trans (op_bind fun n29 => op_ite ?_)
  refine (op_bipush (pc' := 32) rfl rfl k32_63).trans ?_
  refine (op_iand (pc' := 33) rfl rfl).trans ?_
  exact op_tableswitch rfl (by simp only [List.map, k32_0, k32_1, k32_2, k32_3, k32_4, k32_5, k32_6, k32_7, k32_8, k32_9, k32_10, k32_11, k32_12, k32_13, k32_14, k32_15, k32_16, k32_17, k32_18, k32_19, k32_20, k32_21, k32_22, k32_23, k32_24, k32_25, k32_26, k32_27, k32_28, k32_29, k32_30, k32_31, k32_32, k32_33])
theorem B_0_184 {d : Nat} {h : am_H} {a0 : Option Nat} {a1 : Option Nat} {a2 : Option Nat} {a3 : Int32} : Ev (d + 4) 0 184 [vr a0, vr a1, vr a2, vi a3] [] h = (a0).bind fun n189 => if (hkd h n189 = 100 ∨ hkd h n189 = 901) ∧ am_ix (a3 + 1) (hln h n189) then (a0).bind fun n194 => if (hkd h n194 = 100 ∨ hkd h n194 = 901) ∧ am_ix (a3 + 2) (hln h n194) then (a0).bind fun n199 => if (hkd h n199 = 100 ∨ hkd h n199 = 901) ∧ am_ix (a3 + 3) (hln h n199) then (a1).bind fun n200 => if hkd h n200 = 0 then (Cl (d + 3) 33 [vr a1, vi (hI h n189 (Int32.toNatClampNeg (a3 + 1))), vi (hI h n194 (Int32.toNatClampNeg (a3 + 2))), vi (hI h n199 (Int32.toNatClampNeg (a3 + 3)))] h).bind fun x => Ev (d + 4) 0 203 [vr a0, vr a1, vr a2, vi a3] (x.1.toList ++ []) x.2 else none else none else none else none := by
  refine (op_aload_n (pc' := 185) rfl rfl rfl).trans ?_
  refine (op_aload_n (pc' := 186) rfl rfl rfl).trans ?_
  refine (op_iload_n (pc' := 187) rfl rfl rfl).trans ?_
  refine (op_iconst (pc' := 188) rfl rfl k32_1).trans ?_
  refine (op_iadd (pc' := 189) rfl rfl).trans ?_
  refine (op_iaload (pc' := 190) rfl rfl).trans (op_bind fun n189 => op_ite ?_)
  refine (op_aload_n (pc' := 191) rfl rfl rfl).trans ?_
  refine (op_iload_n (pc' := 192) rfl rfl rfl).trans ?_
  refine (op_iconst (pc' := 193) rfl rfl k32_2).trans ?_
  refine (op_iadd (pc' := 194) rfl rfl).trans ?_
  refine (op_iaload (pc' := 195) rfl rfl).trans (op_bind fun n194 => op_ite ?_)
  refine (op_aload_n (pc' := 196) rfl rfl rfl).trans ?_
  refine (op_iload_n (pc' := 197) rfl rfl rfl).trans ?_
  refine (op_iconst (pc' := 198) rfl rfl k32_3).trans ?_
  refine (op_iadd (pc' := 199) rfl rfl).trans ?_
  refine (op_iaload (pc' := 200) rfl rfl).trans (op_bind fun n199 => op_ite ?_)
  exact op_virtual (pc' := 203) (m := 0) rfl rfl rfl rfl rfl rfl rfl rfl
theorem B_0_203 {d : Nat} {h : am_H} {a0 : Option Nat} {a1 : Option Nat} {a2 : Option Nat} {a3 : Int32} {s0 : Int32} : Ev (d + 4) 0 203 [vr a0, vr a1, vr a2, vi a3] [vi s0] h = (a0).bind fun n208 => if (hkd h n208 = 100 ∨ hkd h n208 = 901) ∧ am_ix (a3 + 1) (hln h n208) then (a0).bind fun n213 => if (hkd h n213 = 100 ∨ hkd h n213 = 901) ∧ am_ix (a3 + 2) (hln h n213) then (a0).bind fun n218 => if (hkd h n218 = 100 ∨ hkd h n218 = 901) ∧ am_ix (a3 + 3) (hln h n218) then (a2).bind fun n219 => if hkd h n219 = 11 then (Cl (d + 3) 147 [vr a2, vi (hI h n208 (Int32.toNatClampNeg (a3 + 1))), vi (hI h n213 (Int32.toNatClampNeg (a3 + 2))), vi (hI h n218 (Int32.toNatClampNeg (a3 + 3)))] h).bind fun x => Ev (d + 4) 0 222 [vr a0, vr a1, vr a2, vi a3] (x.1.toList ++ [vi s0]) x.2 else none else none else none else none := by
  refine (op_aload_n (pc' := 204) rfl rfl rfl).trans ?_
  refine (op_aload_n (pc' := 205) rfl rfl rfl).trans ?_
  refine (op_iload_n (pc' := 206) rfl rfl rfl).trans ?_
  refine (op_iconst (pc' := 207) rfl rfl k32_1).trans ?_
  refine (op_iadd (pc' := 208) rfl rfl).trans ?_
  refine (op_iaload (pc' := 209) rfl rfl).trans (op_bind fun n208 => op_ite ?_)
  refine (op_aload_n (pc' := 210) rfl rfl rfl).trans ?_
  refine (op_iload_n (pc' := 211) rfl rfl rfl).trans ?_
  refine (op_iconst (pc' := 212) rfl rfl k32_2).trans ?_
  refine (op_iadd (pc' := 213) rfl rfl).trans ?_
  refine (op_iaload (pc' := 214) rfl rfl).trans (op_bind fun n213 => op_ite ?_)
  refine (op_aload_n (pc' := 215) rfl rfl rfl).trans ?_
  refine (op_iload_n (pc' := 216) rfl rfl rfl).trans ?_
  refine (op_iconst (pc' := 217) rfl rfl k32_3).trans ?_
  refine (op_iadd (pc' := 218) rfl rfl).trans ?_
  refine (op_iaload (pc' := 219) rfl rfl).trans (op_bind fun n218 => op_ite ?_)
  exact op_virtual (pc' := 222) (m := 11) rfl rfl rfl rfl rfl rfl rfl rfl
theorem B_0_222 {d : Nat} {h : am_H} {a0 : Option Nat} {a1 : Option Nat} {a2 : Option Nat} {a3 : Int32} {s0 : Int32} {s1 : Int32} : Ev (d + 4) 0 222 [vr a0, vr a1, vr a2, vi a3] [vi s0, vi s1] h = if s1 = s0 then Ev (d + 4) 0 1421 [vr a0, vr a1, vr a2, vi a3] [] h else Ev (d + 4) 0 225 [vr a0, vr a1, vr a2, vi a3] [] h := by
  exact op_icmpeq (pc' := 225) rfl rfl
theorem B_0_225 {d : Nat} {h : am_H} {a0 : Option Nat} {a1 : Option Nat} {a2 : Option Nat} {a3 : Int32} : Ev (d + 4) 0 225 [vr a0, vr a1, vr a2, vi a3] [] h = if 0 = 0 ∨ 0 = 1 then some (some (vi 0), h) else none := by
  refine (op_iconst (pc' := 226) rfl rfl k32_0).trans ?_
  exact op_ireturnZ rfl rfl
theorem B_0_227 {d : Nat} {h : am_H} {a0 : Option Nat} {a1 : Option Nat} {a2 : Option Nat} {a3 : Int32} : Ev (d + 4) 0 227 [vr a0, vr a1, vr a2, vi a3] [] h = (a0).bind fun n232 => if (hkd h n232 = 100 ∨ hkd h n232 = 901) ∧ am_ix (a3 + 1) (hln h n232) then (a0).bind fun n237 => if (hkd h n237 = 100 ∨ hkd h n237 = 901) ∧ am_ix (a3 + 2) (hln h n237) then (a0).bind fun n242 => if (hkd h n242 = 100 ∨ hkd h n242 = 901) ∧ am_ix (a3 + 3) (hln h n242) then (a1).bind fun n243 => if hkd h n243 = 0 then (Cl (d + 3) 40 [vr a1, vi (hI h n232 (Int32.toNatClampNeg (a3 + 1))), vi (hI h n237 (Int32.toNatClampNeg (a3 + 2))), vi (hI h n242 (Int32.toNatClampNeg (a3 + 3)))] h).bind fun x => Ev (d + 4) 0 246 [vr a0, vr a1, vr a2, vi a3] (x.1.toList ++ []) x.2 else none else none else none else none := by
  refine (op_aload_n (pc' := 228) rfl rfl rfl).trans ?_
  refine (op_aload_n (pc' := 229) rfl rfl rfl).trans ?_
  refine (op_iload_n (pc' := 230) rfl rfl rfl).trans ?_
  refine (op_iconst (pc' := 231) rfl rfl k32_1).trans ?_
  refine (op_iadd (pc' := 232) rfl rfl).trans ?_
  refine (op_iaload (pc' := 233) rfl rfl).trans (op_bind fun n232 => op_ite ?_)
  refine (op_aload_n (pc' := 234) rfl rfl rfl).trans ?_
  refine (op_iload_n (pc' := 235) rfl rfl rfl).trans ?_
  refine (op_iconst (pc' := 236) rfl rfl k32_2).trans ?_
  refine (op_iadd (pc' := 237) rfl rfl).trans ?_
  refine (op_iaload (pc' := 238) rfl rfl).trans (op_bind fun n237 => op_ite ?_)
  refine (op_aload_n (pc' := 239) rfl rfl rfl).trans ?_
  refine (op_iload_n (pc' := 240) rfl rfl rfl).trans ?_
  refine (op_iconst (pc' := 241) rfl rfl k32_3).trans ?_
  refine (op_iadd (pc' := 242) rfl rfl).trans ?_
  refine (op_iaload (pc' := 243) rfl rfl).trans (op_bind fun n242 => op_ite ?_)
  exact op_virtual (pc' := 246) (m := 0) rfl rfl rfl rfl rfl rfl rfl rfl
theorem B_0_246 {d : Nat} {h : am_H} {a0 : Option Nat} {a1 : Option Nat} {a2 : Option Nat} {a3 : Int32} {s0 : Int32} : Ev (d + 4) 0 246 [vr a0, vr a1, vr a2, vi a3] [vi s0] h = (a0).bind fun n251 => if (hkd h n251 = 100 ∨ hkd h n251 = 901) ∧ am_ix (a3 + 1) (hln h n251) then (a0).bind fun n256 => if (hkd h n256 = 100 ∨ hkd h n256 = 901) ∧ am_ix (a3 + 2) (hln h n256) then (a0).bind fun n261 => if (hkd h n261 = 100 ∨ hkd h n261 = 901) ∧ am_ix (a3 + 3) (hln h n261) then (a2).bind fun n262 => if hkd h n262 = 11 then (Cl (d + 3) 149 [vr a2, vi (hI h n251 (Int32.toNatClampNeg (a3 + 1))), vi (hI h n256 (Int32.toNatClampNeg (a3 + 2))), vi (hI h n261 (Int32.toNatClampNeg (a3 + 3)))] h).bind fun x => Ev (d + 4) 0 265 [vr a0, vr a1, vr a2, vi a3] (x.1.toList ++ [vi s0]) x.2 else none else none else none else none := by
  refine (op_aload_n (pc' := 247) rfl rfl rfl).trans ?_
  refine (op_aload_n (pc' := 248) rfl rfl rfl).trans ?_
  refine (op_iload_n (pc' := 249) rfl rfl rfl).trans ?_
  refine (op_iconst (pc' := 250) rfl rfl k32_1).trans ?_
  refine (op_iadd (pc' := 251) rfl rfl).trans ?_
  refine (op_iaload (pc' := 252) rfl rfl).trans (op_bind fun n251 => op_ite ?_)
  refine (op_aload_n (pc' := 253) rfl rfl rfl).trans ?_
  refine (op_iload_n (pc' := 254) rfl rfl rfl).trans ?_
  refine (op_iconst (pc' := 255) rfl rfl k32_2).trans ?_
  refine (op_iadd (pc' := 256) rfl rfl).trans ?_
  refine (op_iaload (pc' := 257) rfl rfl).trans (op_bind fun n256 => op_ite ?_)
  refine (op_aload_n (pc' := 258) rfl rfl rfl).trans ?_
  refine (op_iload_n (pc' := 259) rfl rfl rfl).trans ?_
  refine (op_iconst (pc' := 260) rfl rfl k32_3).trans ?_
  refine (op_iadd (pc' := 261) rfl rfl).trans ?_
  refine (op_iaload (pc' := 262) rfl rfl).trans (op_bind fun n261 => op_ite ?_)
  exact op_virtual (pc' := 265) (m := 11) rfl rfl rfl rfl rfl rfl rfl rfl
theorem B_0_265 {d : Nat} {h : am_H} {a0 : Option Nat} {a1 : Option Nat} {a2 : Option Nat} {a3 : Int32} {s0 : Int32} {s1 : Int32} : Ev (d + 4) 0 265 [vr a0, vr a1, vr a2, vi a3] [vi s0, vi s1] h = if s1 = s0 then Ev (d + 4) 0 1421 [vr a0, vr a1, vr a2, vi a3] [] h else Ev (d + 4) 0 268 [vr a0, vr a1, vr a2, vi a3] [] h := by
  exact op_icmpeq (pc' := 268) rfl rfl
theorem B_0_268 {d : Nat} {h : am_H} {a0 : Option Nat} {a1 : Option Nat} {a2 : Option Nat} {a3 : Int32} : Ev (d + 4) 0 268 [vr a0, vr a1, vr a2, vi a3] [] h = if 0 = 0 ∨ 0 = 1 then some (some (vi 0), h) else none := by
  refine (op_iconst (pc' := 269) rfl rfl k32_0).trans ?_
  exact op_ireturnZ rfl rfl
theorem B_0_270 {d : Nat} {h : am_H} {a0 : Option Nat} {a1 : Option Nat} {a2 : Option Nat} {a3 : Int32} : Ev (d + 4) 0 270 [vr a0, vr a1, vr a2, vi a3] [] h = (a0).bind fun n275 => if (hkd h n275 = 100 ∨ hkd h n275 = 901) ∧ am_ix (a3 + 1) (hln h n275) then (a0).bind fun n280 => if (hkd h n280 = 100 ∨ hkd h n280 = 901) ∧ am_ix (a3 + 2) (hln h n280) then (a0).bind fun n285 => if (hkd h n285 = 100 ∨ hkd h n285 = 901) ∧ am_ix (a3 + 3) (hln h n285) then (a1).bind fun n286 => if hkd h n286 = 0 then (Cl (d + 3) 44 [vr a1, vi (hI h n275 (Int32.toNatClampNeg (a3 + 1))), vi (hI h n280 (Int32.toNatClampNeg (a3 + 2))), vi (hI h n285 (Int32.toNatClampNeg (a3 + 3)))] h).bind fun x => Ev (d + 4) 0 289 [vr a0, vr a1, vr a2, vi a3] (x.1.toList ++ []) x.2 else none else none else none else none := by
  refine (op_aload_n (pc' := 271) rfl rfl rfl).trans ?_
  refine (op_aload_n (pc' := 272) rfl rfl rfl).trans ?_
  refine (op_iload_n (pc' := 273) rfl rfl rfl).trans ?_
  refine (op_iconst (pc' := 274) rfl rfl k32_1).trans ?_
  refine (op_iadd (pc' := 275) rfl rfl).trans ?_
  refine (op_iaload (pc' := 276) rfl rfl).trans (op_bind fun n275 => op_ite ?_)
  refine (op_aload_n (pc' := 277) rfl rfl rfl).trans ?_
  refine (op_iload_n (pc' := 278) rfl rfl rfl).trans ?_
  refine (op_iconst (pc' := 279) rfl rfl k32_2).trans ?_
  refine (op_iadd (pc' := 280) rfl rfl).trans ?_
  refine (op_iaload (pc' := 281) rfl rfl).trans (op_bind fun n280 => op_ite ?_)
  refine (op_aload_n (pc' := 282) rfl rfl rfl).trans ?_
  refine (op_iload_n (pc' := 283) rfl rfl rfl).trans ?_
  refine (op_iconst (pc' := 284) rfl rfl k32_3).trans ?_
  refine (op_iadd (pc' := 285) rfl rfl).trans ?_
  refine (op_iaload (pc' := 286) rfl rfl).trans (op_bind fun n285 => op_ite ?_)
  exact op_virtual (pc' := 289) (m := 0) rfl rfl rfl rfl rfl rfl rfl rfl
theorem B_0_289 {d : Nat} {h : am_H} {a0 : Option Nat} {a1 : Option Nat} {a2 : Option Nat} {a3 : Int32} {s0 : Int32} : Ev (d + 4) 0 289 [vr a0, vr a1, vr a2, vi a3] [vi s0] h = (a0).bind fun n294 => if (hkd h n294 = 100 ∨ hkd h n294 = 901) ∧ am_ix (a3 + 1) (hln h n294) then (a0).bind fun n299 => if (hkd h n299 = 100 ∨ hkd h n299 = 901) ∧ am_ix (a3 + 2) (hln h n299) then (a0).bind fun n304 => if (hkd h n304 = 100 ∨ hkd h n304 = 901) ∧ am_ix (a3 + 3) (hln h n304) then (a2).bind fun n305 => if hkd h n305 = 11 then (Cl (d + 3) 150 [vr a2, vi (hI h n294 (Int32.toNatClampNeg (a3 + 1))), vi (hI h n299 (Int32.toNatClampNeg (a3 + 2))), vi (hI h n304 (Int32.toNatClampNeg (a3 + 3)))] h).bind fun x => Ev (d + 4) 0 308 [vr a0, vr a1, vr a2, vi a3] (x.1.toList ++ [vi s0]) x.2 else none else none else none else none := by
  refine (op_aload_n (pc' := 290) rfl rfl rfl).trans ?_
  refine (op_aload_n (pc' := 291) rfl rfl rfl).trans ?_
  refine (op_iload_n (pc' := 292) rfl rfl rfl).trans ?_
  refine (op_iconst (pc' := 293) rfl rfl k32_1).trans ?_
  refine (op_iadd (pc' := 294) rfl rfl).trans ?_
  refine (op_iaload (pc' := 295) rfl rfl).trans (op_bind fun n294 => op_ite ?_)
  refine (op_aload_n (pc' := 296) rfl rfl rfl).trans ?_
  refine (op_iload_n (pc' := 297) rfl rfl rfl).trans ?_
  refine (op_iconst (pc' := 298) rfl rfl k32_2).trans ?_
  refine (op_iadd (pc' := 299) rfl rfl).trans ?_
  refine (op_iaload (pc' := 300) rfl rfl).trans (op_bind fun n299 => op_ite ?_)
  refine (op_aload_n (pc' := 301) rfl rfl rfl).trans ?_
  refine (op_iload_n (pc' := 302) rfl rfl rfl).trans ?_
  refine (op_iconst (pc' := 303) rfl rfl k32_3).trans ?_
  refine (op_iadd (pc' := 304) rfl rfl).trans ?_
  refine (op_iaload (pc' := 305) rfl rfl).trans (op_bind fun n304 => op_ite ?_)
  exact op_virtual (pc' := 308) (m := 11) rfl rfl rfl rfl rfl rfl rfl rfl
theorem B_0_308 {d : Nat} {h : am_H} {a0 : Option Nat} {a1 : Option Nat} {a2 : Option Nat} {a3 : Int32} {s0 : Int32} {s1 : Int32} : Ev (d + 4) 0 308 [vr a0, vr a1, vr a2, vi a3] [vi s0, vi s1] h = if s1 = s0 then Ev (d + 4) 0 1421 [vr a0, vr a1, vr a2, vi a3] [] h else Ev (d + 4) 0 311 [vr a0, vr a1, vr a2, vi a3] [] h := by
  exact op_icmpeq (pc' := 311) rfl rfl
theorem B_0_311 {d : Nat} {h : am_H} {a0 : Option Nat} {a1 : Option Nat} {a2 : Option Nat} {a3 : Int32} : Ev (d + 4) 0 311 [vr a0, vr a1, vr a2, vi a3] [] h = if 0 = 0 ∨ 0 = 1 then some (some (vi 0), h) else none := by
  refine (op_iconst (pc' := 312) rfl rfl k32_0).trans ?_
  exact op_ireturnZ rfl rfl
theorem B_0_313 {d : Nat} {h : am_H} {a0 : Option Nat} {a1 : Option Nat} {a2 : Option Nat} {a3 : Int32} : Ev (d + 4) 0 313 [vr a0, vr a1, vr a2, vi a3] [] h = (a0).bind fun n318 => if (hkd h n318 = 100 ∨ hkd h n318 = 901) ∧ am_ix (a3 + 1) (hln h n318) then (a0).bind fun n323 => if (hkd h n323 = 100 ∨ hkd h n323 = 901) ∧ am_ix (a3 + 2) (hln h n323) then (a1).bind fun n324 => if hkd h n324 = 0 then (Cl (d + 3) 55 [vr a1, vi (hI h n318 (Int32.toNatClampNeg (a3 + 1))), vi (hI h n323 (Int32.toNatClampNeg (a3 + 2)))] h).bind fun x => Ev (d + 4) 0 327 [vr a0, vr a1, vr a2, vi a3] (x.1.toList ++ []) x.2 else none else none else none := by
  refine (op_aload_n (pc' := 314) rfl rfl rfl).trans ?_
  refine (op_aload_n (pc' := 315) rfl rfl rfl).trans ?_
  refine (op_iload_n (pc' := 316) rfl rfl rfl).trans ?_
  refine (op_iconst (pc' := 317) rfl rfl k32_1).trans ?_
  refine (op_iadd (pc' := 318) rfl rfl).trans ?_
  refine (op_iaload (pc' := 319) rfl rfl).trans (op_bind fun n318 => op_ite ?_)
  refine (op_aload_n (pc' := 320) rfl rfl rfl).trans ?_
  refine (op_iload_n (pc' := 321) rfl rfl rfl).trans ?_
  refine (op_iconst (pc' := 322) rfl rfl k32_2).trans ?_
  refine (op_iadd (pc' := 323) rfl rfl).trans ?_
  refine (op_iaload (pc' := 324) rfl rfl).trans (op_bind fun n323 => op_ite ?_)
  exact op_virtual (pc' := 327) (m := 0) rfl rfl rfl rfl rfl rfl rfl rfl
theorem B_0_327 {d : Nat} {h : am_H} {a0 : Option Nat} {a1 : Option Nat} {a2 : Option Nat} {a3 : Int32} {s0 : Int32} : Ev (d + 4) 0 327 [vr a0, vr a1, vr a2, vi a3] [vi s0] h = (a0).bind fun n332 => if (hkd h n332 = 100 ∨ hkd h n332 = 901) ∧ am_ix (a3 + 1) (hln h n332) then (a0).bind fun n337 => if (hkd h n337 = 100 ∨ hkd h n337 = 901) ∧ am_ix (a3 + 2) (hln h n337) then (a2).bind fun n338 => if hkd h n338 = 11 then (Cl (d + 3) 156 [vr a2, vi (hI h n332 (Int32.toNatClampNeg (a3 + 1))), vi (hI h n337 (Int32.toNatClampNeg (a3 + 2)))] h).bind fun x => Ev (d + 4) 0 341 [vr a0, vr a1, vr a2, vi a3] (x.1.toList ++ [vi s0]) x.2 else none else none else none := by
  refine (op_aload_n (pc' := 328) rfl rfl rfl).trans ?_
  refine (op_aload_n (pc' := 329) rfl rfl rfl).trans ?_
  refine (op_iload_n (pc' := 330) rfl rfl rfl).trans ?_
  refine (op_iconst (pc' := 331) rfl rfl k32_1).trans ?_
  refine (op_iadd (pc' := 332) rfl rfl).trans ?_
  refine (op_iaload (pc' := 333) rfl rfl).trans (op_bind fun n332 => op_ite ?_)
  refine (op_aload_n (pc' := 334) rfl rfl rfl).trans ?_
  refine (op_iload_n (pc' := 335) rfl rfl rfl).trans ?_
  refine (op_iconst (pc' := 336) rfl rfl k32_2).trans ?_
  refine (op_iadd (pc' := 337) rfl rfl).trans ?_
  refine (op_iaload (pc' := 338) rfl rfl).trans (op_bind fun n337 => op_ite ?_)
  exact op_virtual (pc' := 341) (m := 11) rfl rfl rfl rfl rfl rfl rfl rfl
theorem B_0_341 {d : Nat} {h : am_H} {a0 : Option Nat} {a1 : Option Nat} {a2 : Option Nat} {a3 : Int32} {s0 : Int32} {s1 : Int32} : Ev (d + 4) 0 341 [vr a0, vr a1, vr a2, vi a3] [vi s0, vi s1] h = if s1 = s0 then Ev (d + 4) 0 1421 [vr a0, vr a1, vr a2, vi a3] [] h else Ev (d + 4) 0 344 [vr a0, vr a1, vr a2, vi a3] [] h := by
  exact op_icmpeq (pc' := 344) rfl rfl
theorem B_0_344 {d : Nat} {h : am_H} {a0 : Option Nat} {a1 : Option Nat} {a2 : Option Nat} {a3 : Int32} : Ev (d + 4) 0 344 [vr a0, vr a1, vr a2, vi a3] [] h = if 0 = 0 ∨ 0 = 1 then some (some (vi 0), h) else none := by
  refine (op_iconst (pc' := 345) rfl rfl k32_0).trans ?_
  exact op_ireturnZ rfl rfl
theorem B_0_346 {d : Nat} {h : am_H} {a0 : Option Nat} {a1 : Option Nat} {a2 : Option Nat} {a3 : Int32} : Ev (d + 4) 0 346 [vr a0, vr a1, vr a2, vi a3] [] h = (a0).bind fun n351 => if (hkd h n351 = 100 ∨ hkd h n351 = 901) ∧ am_ix (a3 + 1) (hln h n351) then (a0).bind fun n356 => if (hkd h n356 = 100 ∨ hkd h n356 = 901) ∧ am_ix (a3 + 2) (hln h n356) then (a0).bind fun n361 => if (hkd h n361 = 100 ∨ hkd h n361 = 901) ∧ am_ix (a3 + 3) (hln h n361) then (a1).bind fun n362 => if hkd h n362 = 0 then (Cl (d + 3) 56 [vr a1, vi (hI h n351 (Int32.toNatClampNeg (a3 + 1))), vi (hI h n356 (Int32.toNatClampNeg (a3 + 2))), vi (hI h n361 (Int32.toNatClampNeg (a3 + 3)))] h).bind fun x => Ev (d + 4) 0 365 [vr a0, vr a1, vr a2, vi a3] (x.1.toList ++ []) x.2 else none else none else none else none := by
  refine (op_aload_n (pc' := 347) rfl rfl rfl).trans ?_
  refine (op_aload_n (pc' := 348) rfl rfl rfl).trans ?_
  refine (op_iload_n (pc' := 349) rfl rfl rfl).trans ?_
  refine (op_iconst (pc' := 350) rfl rfl k32_1).trans ?_
  refine (op_iadd (pc' := 351) rfl rfl).trans ?_
  refine (op_iaload (pc' := 352) rfl rfl).trans (op_bind fun n351 => op_ite ?_)
  refine (op_aload_n (pc' := 353) rfl rfl rfl).trans ?_
  refine (op_iload_n (pc' := 354) rfl rfl rfl).trans ?_
  refine (op_iconst (pc' := 355) rfl rfl k32_2).trans ?_
  refine (op_iadd (pc' := 356) rfl rfl).trans ?_
  refine (op_iaload (pc' := 357) rfl rfl).trans (op_bind fun n356 => op_ite ?_)
  refine (op_aload_n (pc' := 358) rfl rfl rfl).trans ?_
  refine (op_iload_n (pc' := 359) rfl rfl rfl).trans ?_
  refine (op_iconst (pc' := 360) rfl rfl k32_3).trans ?_
  refine (op_iadd (pc' := 361) rfl rfl).trans ?_
  refine (op_iaload (pc' := 362) rfl rfl).trans (op_bind fun n361 => op_ite ?_)
  exact op_virtual (pc' := 365) (m := 0) rfl rfl rfl rfl rfl rfl rfl rfl
theorem B_0_365 {d : Nat} {h : am_H} {a0 : Option Nat} {a1 : Option Nat} {a2 : Option Nat} {a3 : Int32} {s0 : Int32} : Ev (d + 4) 0 365 [vr a0, vr a1, vr a2, vi a3] [vi s0] h = (a0).bind fun n370 => if (hkd h n370 = 100 ∨ hkd h n370 = 901) ∧ am_ix (a3 + 1) (hln h n370) then (a0).bind fun n375 => if (hkd h n375 = 100 ∨ hkd h n375 = 901) ∧ am_ix (a3 + 2) (hln h n375) then (a0).bind fun n380 => if (hkd h n380 = 100 ∨ hkd h n380 = 901) ∧ am_ix (a3 + 3) (hln h n380) then (a2).bind fun n381 => if hkd h n381 = 11 then (Cl (d + 3) 157 [vr a2, vi (hI h n370 (Int32.toNatClampNeg (a3 + 1))), vi (hI h n375 (Int32.toNatClampNeg (a3 + 2))), vi (hI h n380 (Int32.toNatClampNeg (a3 + 3)))] h).bind fun x => Ev (d + 4) 0 384 [vr a0, vr a1, vr a2, vi a3] (x.1.toList ++ [vi s0]) x.2 else none else none else none else none := by
  refine (op_aload_n (pc' := 366) rfl rfl rfl).trans ?_
  refine (op_aload_n (pc' := 367) rfl rfl rfl).trans ?_
  refine (op_iload_n (pc' := 368) rfl rfl rfl).trans ?_
  refine (op_iconst (pc' := 369) rfl rfl k32_1).trans ?_
  refine (op_iadd (pc' := 370) rfl rfl).trans ?_
  refine (op_iaload (pc' := 371) rfl rfl).trans (op_bind fun n370 => op_ite ?_)
  refine (op_aload_n (pc' := 372) rfl rfl rfl).trans ?_
  refine (op_iload_n (pc' := 373) rfl rfl rfl).trans ?_
  refine (op_iconst (pc' := 374) rfl rfl k32_2).trans ?_
  refine (op_iadd (pc' := 375) rfl rfl).trans ?_
  refine (op_iaload (pc' := 376) rfl rfl).trans (op_bind fun n375 => op_ite ?_)
  refine (op_aload_n (pc' := 377) rfl rfl rfl).trans ?_
  refine (op_iload_n (pc' := 378) rfl rfl rfl).trans ?_
  refine (op_iconst (pc' := 379) rfl rfl k32_3).trans ?_
  refine (op_iadd (pc' := 380) rfl rfl).trans ?_
  refine (op_iaload (pc' := 381) rfl rfl).trans (op_bind fun n380 => op_ite ?_)
  exact op_virtual (pc' := 384) (m := 11) rfl rfl rfl rfl rfl rfl rfl rfl
theorem B_0_384 {d : Nat} {h : am_H} {a0 : Option Nat} {a1 : Option Nat} {a2 : Option Nat} {a3 : Int32} {s0 : Int32} {s1 : Int32} : Ev (d + 4) 0 384 [vr a0, vr a1, vr a2, vi a3] [vi s0, vi s1] h = if s1 = s0 then Ev (d + 4) 0 1421 [vr a0, vr a1, vr a2, vi a3] [] h else Ev (d + 4) 0 387 [vr a0, vr a1, vr a2, vi a3] [] h := by
  exact op_icmpeq (pc' := 387) rfl rfl
theorem B_0_387 {d : Nat} {h : am_H} {a0 : Option Nat} {a1 : Option Nat} {a2 : Option Nat} {a3 : Int32} : Ev (d + 4) 0 387 [vr a0, vr a1, vr a2, vi a3] [] h = if 0 = 0 ∨ 0 = 1 then some (some (vi 0), h) else none := by
  refine (op_iconst (pc' := 388) rfl rfl k32_0).trans ?_
  exact op_ireturnZ rfl rfl
theorem B_0_389 {d : Nat} {h : am_H} {a0 : Option Nat} {a1 : Option Nat} {a2 : Option Nat} {a3 : Int32} : Ev (d + 4) 0 389 [vr a0, vr a1, vr a2, vi a3] [] h = (a0).bind fun n394 => if (hkd h n394 = 100 ∨ hkd h n394 = 901) ∧ am_ix (a3 + 1) (hln h n394) then (a0).bind fun n399 => if (hkd h n399 = 100 ∨ hkd h n399 = 901) ∧ am_ix (a3 + 2) (hln h n399) then (a1).bind fun n400 => if hkd h n400 = 0 then (Cl (d + 3) 60 [vr a1, vi (hI h n394 (Int32.toNatClampNeg (a3 + 1))), vi (hI h n399 (Int32.toNatClampNeg (a3 + 2)))] h).bind fun x => Ev (d + 4) 0 403 [vr a0, vr a1, vr a2, vi a3] (x.1.toList ++ []) x.2 else none else none else none := by
  refine (op_aload_n (pc' := 390) rfl rfl rfl).trans ?_
  refine (op_aload_n (pc' := 391) rfl rfl rfl).trans ?_
  refine (op_iload_n (pc' := 392) rfl rfl rfl).trans ?_
  refine (op_iconst (pc' := 393) rfl rfl k32_1).trans ?_
  refine (op_iadd (pc' := 394) rfl rfl).trans ?_
  refine (op_iaload (pc' := 395) rfl rfl).trans (op_bind fun n394 => op_ite ?_)
  refine (op_aload_n (pc' := 396) rfl rfl rfl).trans ?_
  refine (op_iload_n (pc' := 397) rfl rfl rfl).trans ?_
  refine (op_iconst (pc' := 398) rfl rfl k32_2).trans ?_
  refine (op_iadd (pc' := 399) rfl rfl).trans ?_
  refine (op_iaload (pc' := 400) rfl rfl).trans (op_bind fun n399 => op_ite ?_)
  exact op_virtual (pc' := 403) (m := 0) rfl rfl rfl rfl rfl rfl rfl rfl
theorem B_0_403 {d : Nat} {h : am_H} {a0 : Option Nat} {a1 : Option Nat} {a2 : Option Nat} {a3 : Int32} {s0 : Int32} : Ev (d + 4) 0 403 [vr a0, vr a1, vr a2, vi a3] [vi s0] h = (a0).bind fun n408 => if (hkd h n408 = 100 ∨ hkd h n408 = 901) ∧ am_ix (a3 + 1) (hln h n408) then (a0).bind fun n413 => if (hkd h n413 = 100 ∨ hkd h n413 = 901) ∧ am_ix (a3 + 2) (hln h n413) then (a2).bind fun n414 => if hkd h n414 = 11 then (Cl (d + 3) 159 [vr a2, vi (hI h n408 (Int32.toNatClampNeg (a3 + 1))), vi (hI h n413 (Int32.toNatClampNeg (a3 + 2)))] h).bind fun x => Ev (d + 4) 0 417 [vr a0, vr a1, vr a2, vi a3] (x.1.toList ++ [vi s0]) x.2 else none else none else none := by
  refine (op_aload_n (pc' := 404) rfl rfl rfl).trans ?_
  refine (op_aload_n (pc' := 405) rfl rfl rfl).trans ?_
  refine (op_iload_n (pc' := 406) rfl rfl rfl).trans ?_
  refine (op_iconst (pc' := 407) rfl rfl k32_1).trans ?_
  refine (op_iadd (pc' := 408) rfl rfl).trans ?_
  refine (op_iaload (pc' := 409) rfl rfl).trans (op_bind fun n408 => op_ite ?_)
  refine (op_aload_n (pc' := 410) rfl rfl rfl).trans ?_
  refine (op_iload_n (pc' := 411) rfl rfl rfl).trans ?_
  refine (op_iconst (pc' := 412) rfl rfl k32_2).trans ?_
  refine (op_iadd (pc' := 413) rfl rfl).trans ?_
  refine (op_iaload (pc' := 414) rfl rfl).trans (op_bind fun n413 => op_ite ?_)
  exact op_virtual (pc' := 417) (m := 11) rfl rfl rfl rfl rfl rfl rfl rfl
theorem B_0_417 {d : Nat} {h : am_H} {a0 : Option Nat} {a1 : Option Nat} {a2 : Option Nat} {a3 : Int32} {s0 : Int32} {s1 : Int32} : Ev (d + 4) 0 417 [vr a0, vr a1, vr a2, vi a3] [vi s0, vi s1] h = if s1 = s0 then Ev (d + 4) 0 1421 [vr a0, vr a1, vr a2, vi a3] [] h else Ev (d + 4) 0 420 [vr a0, vr a1, vr a2, vi a3] [] h := by
  exact op_icmpeq (pc' := 420) rfl rfl
theorem B_0_420 {d : Nat} {h : am_H} {a0 : Option Nat} {a1 : Option Nat} {a2 : Option Nat} {a3 : Int32} : Ev (d + 4) 0 420 [vr a0, vr a1, vr a2, vi a3] [] h = if 0 = 0 ∨ 0 = 1 then some (some (vi 0), h) else none := by
  refine (op_iconst (pc' := 421) rfl rfl k32_0).trans ?_
  exact op_ireturnZ rfl rfl
theorem B_0_422 {d : Nat} {h : am_H} {a0 : Option Nat} {a1 : Option Nat} {a2 : Option Nat} {a3 : Int32} : Ev (d + 4) 0 422 [vr a0, vr a1, vr a2, vi a3] [] h = (a0).bind fun n427 => if (hkd h n427 = 100 ∨ hkd h n427 = 901) ∧ am_ix (a3 + 1) (hln h n427) then (a0).bind fun n432 => if (hkd h n432 = 100 ∨ hkd h n432 = 901) ∧ am_ix (a3 + 2) (hln h n432) then (a0).bind fun n437 => if (hkd h n437 = 100 ∨ hkd h n437 = 901) ∧ am_ix (a3 + 3) (hln h n437) then (a1).bind fun n438 => if hkd h n438 = 0 then (Cl (d + 3) 62 [vr a1, vi (hI h n427 (Int32.toNatClampNeg (a3 + 1))), vi (hI h n432 (Int32.toNatClampNeg (a3 + 2))), vi (hI h n437 (Int32.toNatClampNeg (a3 + 3)))] h).bind fun x => Ev (d + 4) 0 441 [vr a0, vr a1, vr a2, vi a3] (x.1.toList ++ []) x.2 else none else none else none else none := by
  refine (op_aload_n (pc' := 423) rfl rfl rfl).trans ?_
  refine (op_aload_n (pc' := 424) rfl rfl rfl).trans ?_
  refine (op_iload_n (pc' := 425) rfl rfl rfl).trans ?_
  refine (op_iconst (pc' := 426) rfl rfl k32_1).trans ?_
  refine (op_iadd (pc' := 427) rfl rfl).trans ?_
  refine (op_iaload (pc' := 428) rfl rfl).trans (op_bind fun n427 => op_ite ?_)
  refine (op_aload_n (pc' := 429) rfl rfl rfl).trans ?_
  refine (op_iload_n (pc' := 430) rfl rfl rfl).trans ?_
  refine (op_iconst (pc' := 431) rfl rfl k32_2).trans ?_
  refine (op_iadd (pc' := 432) rfl rfl).trans ?_
  refine (op_iaload (pc' := 433) rfl rfl).trans (op_bind fun n432 => op_ite ?_)
  refine (op_aload_n (pc' := 434) rfl rfl rfl).trans ?_
  refine (op_iload_n (pc' := 435) rfl rfl rfl).trans ?_
  refine (op_iconst (pc' := 436) rfl rfl k32_3).trans ?_
  refine (op_iadd (pc' := 437) rfl rfl).trans ?_
  refine (op_iaload (pc' := 438) rfl rfl).trans (op_bind fun n437 => op_ite ?_)
  exact op_virtual (pc' := 441) (m := 0) rfl rfl rfl rfl rfl rfl rfl rfl
theorem B_0_441 {d : Nat} {h : am_H} {a0 : Option Nat} {a1 : Option Nat} {a2 : Option Nat} {a3 : Int32} {s0 : Int32} : Ev (d + 4) 0 441 [vr a0, vr a1, vr a2, vi a3] [vi s0] h = (a0).bind fun n446 => if (hkd h n446 = 100 ∨ hkd h n446 = 901) ∧ am_ix (a3 + 1) (hln h n446) then (a0).bind fun n451 => if (hkd h n451 = 100 ∨ hkd h n451 = 901) ∧ am_ix (a3 + 2) (hln h n451) then (a0).bind fun n456 => if (hkd h n456 = 100 ∨ hkd h n456 = 901) ∧ am_ix (a3 + 3) (hln h n456) then (a2).bind fun n457 => if hkd h n457 = 11 then (Cl (d + 3) 160 [vr a2, vi (hI h n446 (Int32.toNatClampNeg (a3 + 1))), vi (hI h n451 (Int32.toNatClampNeg (a3 + 2))), vi (hI h n456 (Int32.toNatClampNeg (a3 + 3)))] h).bind fun x => Ev (d + 4) 0 460 [vr a0, vr a1, vr a2, vi a3] (x.1.toList ++ [vi s0]) x.2 else none else none else none else none := by
  refine (op_aload_n (pc' := 442) rfl rfl rfl).trans ?_
  refine (op_aload_n (pc' := 443) rfl rfl rfl).trans ?_
  refine (op_iload_n (pc' := 444) rfl rfl rfl).trans ?_
  refine (op_iconst (pc' := 445) rfl rfl k32_1).trans ?_
  refine (op_iadd (pc' := 446) rfl rfl).trans ?_
  refine (op_iaload (pc' := 447) rfl rfl).trans (op_bind fun n446 => op_ite ?_)
  refine (op_aload_n (pc' := 448) rfl rfl rfl).trans ?_
  refine (op_iload_n (pc' := 449) rfl rfl rfl).trans ?_
  refine (op_iconst (pc' := 450) rfl rfl k32_2).trans ?_
  refine (op_iadd (pc' := 451) rfl rfl).trans ?_
  refine (op_iaload (pc' := 452) rfl rfl).trans (op_bind fun n451 => op_ite ?_)
  refine (op_aload_n (pc' := 453) rfl rfl rfl).trans ?_
  refine (op_iload_n (pc' := 454) rfl rfl rfl).trans ?_
  refine (op_iconst (pc' := 455) rfl rfl k32_3).trans ?_
  refine (op_iadd (pc' := 456) rfl rfl).trans ?_
  refine (op_iaload (pc' := 457) rfl rfl).trans (op_bind fun n456 => op_ite ?_)
  exact op_virtual (pc' := 460) (m := 11) rfl rfl rfl rfl rfl rfl rfl rfl
theorem B_0_460 {d : Nat} {h : am_H} {a0 : Option Nat} {a1 : Option Nat} {a2 : Option Nat} {a3 : Int32} {s0 : Int32} {s1 : Int32} : Ev (d + 4) 0 460 [vr a0, vr a1, vr a2, vi a3] [vi s0, vi s1] h = if s1 = s0 then Ev (d + 4) 0 1421 [vr a0, vr a1, vr a2, vi a3] [] h else Ev (d + 4) 0 463 [vr a0, vr a1, vr a2, vi a3] [] h := by
  exact op_icmpeq (pc' := 463) rfl rfl
theorem B_0_463 {d : Nat} {h : am_H} {a0 : Option Nat} {a1 : Option Nat} {a2 : Option Nat} {a3 : Int32} : Ev (d + 4) 0 463 [vr a0, vr a1, vr a2, vi a3] [] h = if 0 = 0 ∨ 0 = 1 then some (some (vi 0), h) else none := by
  refine (op_iconst (pc' := 464) rfl rfl k32_0).trans ?_
  exact op_ireturnZ rfl rfl
theorem B_0_465 {d : Nat} {h : am_H} {a0 : Option Nat} {a1 : Option Nat} {a2 : Option Nat} {a3 : Int32} : Ev (d + 4) 0 465 [vr a0, vr a1, vr a2, vi a3] [] h = (a0).bind fun n470 => if (hkd h n470 = 100 ∨ hkd h n470 = 901) ∧ am_ix (a3 + 1) (hln h n470) then (a1).bind fun n471 => if hkd h n471 = 0 then (Cl (d + 3) 65 [vr a1, vi (hI h n470 (Int32.toNatClampNeg (a3 + 1)))] h).bind fun x => Ev (d + 4) 0 474 [vr a0, vr a1, vr a2, vi a3] (x.1.toList ++ []) x.2 else none else none := by
  refine (op_aload_n (pc' := 466) rfl rfl rfl).trans ?_
  refine (op_aload_n (pc' := 467) rfl rfl rfl).trans ?_
  refine (op_iload_n (pc' := 468) rfl rfl rfl).trans ?_
  refine (op_iconst (pc' := 469) rfl rfl k32_1).trans ?_
  refine (op_iadd (pc' := 470) rfl rfl).trans ?_
  refine (op_iaload (pc' := 471) rfl rfl).trans (op_bind fun n470 => op_ite ?_)
  exact op_virtual (pc' := 474) (m := 0) rfl rfl rfl rfl rfl rfl rfl rfl
theorem B_0_474 {d : Nat} {h : am_H} {a0 : Option Nat} {a1 : Option Nat} {a2 : Option Nat} {a3 : Int32} {s0 : Int32} : Ev (d + 4) 0 474 [vr a0, vr a1, vr a2, vi a3] [vi s0] h = (a0).bind fun n479 => if (hkd h n479 = 100 ∨ hkd h n479 = 901) ∧ am_ix (a3 + 1) (hln h n479) then (a2).bind fun n480 => if hkd h n480 = 11 then (Cl (d + 3) 161 [vr a2, vi (hI h n479 (Int32.toNatClampNeg (a3 + 1)))] h).bind fun x => Ev (d + 4) 0 483 [vr a0, vr a1, vr a2, vi a3] (x.1.toList ++ [vi s0]) x.2 else none else none := by
  refine (op_aload_n (pc' := 475) rfl rfl rfl).trans ?_
  refine (op_aload_n (pc' := 476) rfl rfl rfl).trans ?_
  refine (op_iload_n (pc' := 477) rfl rfl rfl).trans ?_
  refine (op_iconst (pc' := 478) rfl rfl k32_1).trans ?_
  refine (op_iadd (pc' := 479) rfl rfl).trans ?_
  refine (op_iaload (pc' := 480) rfl rfl).trans (op_bind fun n479 => op_ite ?_)
  exact op_virtual (pc' := 483) (m := 11) rfl rfl rfl rfl rfl rfl rfl rfl
theorem B_0_483 {d : Nat} {h : am_H} {a0 : Option Nat} {a1 : Option Nat} {a2 : Option Nat} {a3 : Int32} {s0 : Int32} {s1 : Int32} : Ev (d + 4) 0 483 [vr a0, vr a1, vr a2, vi a3] [vi s0, vi s1] h = if s1 = s0 then Ev (d + 4) 0 1421 [vr a0, vr a1, vr a2, vi a3] [] h else Ev (d + 4) 0 486 [vr a0, vr a1, vr a2, vi a3] [] h := by
  exact op_icmpeq (pc' := 486) rfl rfl
theorem B_0_486 {d : Nat} {h : am_H} {a0 : Option Nat} {a1 : Option Nat} {a2 : Option Nat} {a3 : Int32} : Ev (d + 4) 0 486 [vr a0, vr a1, vr a2, vi a3] [] h = if 0 = 0 ∨ 0 = 1 then some (some (vi 0), h) else none := by
  refine (op_iconst (pc' := 487) rfl rfl k32_0).trans ?_
  exact op_ireturnZ rfl rfl
theorem B_0_488 {d : Nat} {h : am_H} {a0 : Option Nat} {a1 : Option Nat} {a2 : Option Nat} {a3 : Int32} : Ev (d + 4) 0 488 [vr a0, vr a1, vr a2, vi a3] [] h = (a0).bind fun n493 => if (hkd h n493 = 100 ∨ hkd h n493 = 901) ∧ am_ix (a3 + 1) (hln h n493) then (a0).bind fun n498 => if (hkd h n498 = 100 ∨ hkd h n498 = 901) ∧ am_ix (a3 + 2) (hln h n498) then (a0).bind fun n503 => if (hkd h n503 = 100 ∨ hkd h n503 = 901) ∧ am_ix (a3 + 3) (hln h n503) then (a0).bind fun n508 => if (hkd h n508 = 100 ∨ hkd h n508 = 901) ∧ am_ix (a3 + 4) (hln h n508) then (a1).bind fun n509 => if hkd h n509 = 0 then (Cl (d + 3) 66 [vr a1, vi (hI h n493 (Int32.toNatClampNeg (a3 + 1))), vi (hI h n498 (Int32.toNatClampNeg (a3 + 2))), vi (hI h n503 (Int32.toNatClampNeg (a3 + 3))), vi (hI h n508 (Int32.toNatClampNeg (a3 + 4)))] h).bind fun x => Ev (d + 4) 0 512 [vr a0, vr a1, vr a2, vi a3] (x.1.toList ++ []) x.2 else none else none else none else none else none := by
  refine (op_aload_n (pc' := 489) rfl rfl rfl).trans ?_
  refine (op_aload_n (pc' := 490) rfl rfl rfl).trans ?_
  refine (op_iload_n (pc' := 491) rfl rfl rfl).trans ?_
  refine (op_iconst (pc' := 492) rfl rfl k32_1).trans ?_
  refine (op_iadd (pc' := 493) rfl rfl).trans ?_
  refine (op_iaload (pc' := 494) rfl rfl).trans (op_bind fun n493 => op_ite ?_)
  refine (op_aload_n (pc' := 495) rfl rfl rfl).trans ?_
  refine (op_iload_n (pc' := 496) rfl rfl rfl).trans ?_
  refine (op_iconst (pc' := 497) rfl rfl k32_2).trans ?_
  refine (op_iadd (pc' := 498) rfl rfl).trans ?_
  refine (op_iaload (pc' := 499) rfl rfl).trans (op_bind fun n498 => op_ite ?_)
  refine (op_aload_n (pc' := 500) rfl rfl rfl).trans ?_
  refine (op_iload_n (pc' := 501) rfl rfl rfl).trans ?_
  refine (op_iconst (pc' := 502) rfl rfl k32_3).trans ?_
  refine (op_iadd (pc' := 503) rfl rfl).trans ?_
  refine (op_iaload (pc' := 504) rfl rfl).trans (op_bind fun n503 => op_ite ?_)
  refine (op_aload_n (pc' := 505) rfl rfl rfl).trans ?_
  refine (op_iload_n (pc' := 506) rfl rfl rfl).trans ?_
  refine (op_iconst (pc' := 507) rfl rfl k32_4).trans ?_
  refine (op_iadd (pc' := 508) rfl rfl).trans ?_
  refine (op_iaload (pc' := 509) rfl rfl).trans (op_bind fun n508 => op_ite ?_)
  exact op_virtual (pc' := 512) (m := 0) rfl rfl rfl rfl rfl rfl rfl rfl
theorem B_0_512 {d : Nat} {h : am_H} {a0 : Option Nat} {a1 : Option Nat} {a2 : Option Nat} {a3 : Int32} {s0 : Int32} : Ev (d + 4) 0 512 [vr a0, vr a1, vr a2, vi a3] [vi s0] h = (a0).bind fun n517 => if (hkd h n517 = 100 ∨ hkd h n517 = 901) ∧ am_ix (a3 + 1) (hln h n517) then (a0).bind fun n522 => if (hkd h n522 = 100 ∨ hkd h n522 = 901) ∧ am_ix (a3 + 2) (hln h n522) then (a0).bind fun n527 => if (hkd h n527 = 100 ∨ hkd h n527 = 901) ∧ am_ix (a3 + 3) (hln h n527) then (a0).bind fun n532 => if (hkd h n532 = 100 ∨ hkd h n532 = 901) ∧ am_ix (a3 + 4) (hln h n532) then (a2).bind fun n533 => if hkd h n533 = 11 then (Cl (d + 3) 162 [vr a2, vi (hI h n517 (Int32.toNatClampNeg (a3 + 1))), vi (hI h n522 (Int32.toNatClampNeg (a3 + 2))), vi (hI h n527 (Int32.toNatClampNeg (a3 + 3))), vi (hI h n532 (Int32.toNatClampNeg (a3 + 4)))] h).bind fun x => Ev (d + 4) 0 536 [vr a0, vr a1, vr a2, vi a3] (x.1.toList ++ [vi s0]) x.2 else none else none else none else none else none := by
  refine (op_aload_n (pc' := 513) rfl rfl rfl).trans ?_
  refine (op_aload_n (pc' := 514) rfl rfl rfl).trans ?_
  refine (op_iload_n (pc' := 515) rfl rfl rfl).trans ?_
  refine (op_iconst (pc' := 516) rfl rfl k32_1).trans ?_
  refine (op_iadd (pc' := 517) rfl rfl).trans ?_
  refine (op_iaload (pc' := 518) rfl rfl).trans (op_bind fun n517 => op_ite ?_)
  refine (op_aload_n (pc' := 519) rfl rfl rfl).trans ?_
  refine (op_iload_n (pc' := 520) rfl rfl rfl).trans ?_
  refine (op_iconst (pc' := 521) rfl rfl k32_2).trans ?_
  refine (op_iadd (pc' := 522) rfl rfl).trans ?_
  refine (op_iaload (pc' := 523) rfl rfl).trans (op_bind fun n522 => op_ite ?_)
  refine (op_aload_n (pc' := 524) rfl rfl rfl).trans ?_
  refine (op_iload_n (pc' := 525) rfl rfl rfl).trans ?_
  refine (op_iconst (pc' := 526) rfl rfl k32_3).trans ?_
  refine (op_iadd (pc' := 527) rfl rfl).trans ?_
  refine (op_iaload (pc' := 528) rfl rfl).trans (op_bind fun n527 => op_ite ?_)
  refine (op_aload_n (pc' := 529) rfl rfl rfl).trans ?_
  refine (op_iload_n (pc' := 530) rfl rfl rfl).trans ?_
  refine (op_iconst (pc' := 531) rfl rfl k32_4).trans ?_
  refine (op_iadd (pc' := 532) rfl rfl).trans ?_
  refine (op_iaload (pc' := 533) rfl rfl).trans (op_bind fun n532 => op_ite ?_)
  exact op_virtual (pc' := 536) (m := 11) rfl rfl rfl rfl rfl rfl rfl rfl
theorem B_0_536 {d : Nat} {h : am_H} {a0 : Option Nat} {a1 : Option Nat} {a2 : Option Nat} {a3 : Int32} {s0 : Int32} {s1 : Int32} : Ev (d + 4) 0 536 [vr a0, vr a1, vr a2, vi a3] [vi s0, vi s1] h = if s1 = s0 then Ev (d + 4) 0 1421 [vr a0, vr a1, vr a2, vi a3] [] h else Ev (d + 4) 0 539 [vr a0, vr a1, vr a2, vi a3] [] h := by
  exact op_icmpeq (pc' := 539) rfl rfl
theorem B_0_539 {d : Nat} {h : am_H} {a0 : Option Nat} {a1 : Option Nat} {a2 : Option Nat} {a3 : Int32} : Ev (d + 4) 0 539 [vr a0, vr a1, vr a2, vi a3] [] h = if 0 = 0 ∨ 0 = 1 then some (some (vi 0), h) else none := by
  refine (op_iconst (pc' := 540) rfl rfl k32_0).trans ?_
  exact op_ireturnZ rfl rfl
theorem B_0_541 {d : Nat} {h : am_H} {a0 : Option Nat} {a1 : Option Nat} {a2 : Option Nat} {a3 : Int32} : Ev (d + 4) 0 541 [vr a0, vr a1, vr a2, vi a3] [] h = (a0).bind fun n546 => if (hkd h n546 = 100 ∨ hkd h n546 = 901) ∧ am_ix (a3 + 1) (hln h n546) then (a0).bind fun n551 => if (hkd h n551 = 100 ∨ hkd h n551 = 901) ∧ am_ix (a3 + 2) (hln h n551) then (a1).bind fun n552 => if hkd h n552 = 0 then (Cl (d + 3) 69 [vr a1, vi (hI h n546 (Int32.toNatClampNeg (a3 + 1))), vi (hI h n551 (Int32.toNatClampNeg (a3 + 2)))] h).bind fun x => Ev (d + 4) 0 555 [vr a0, vr a1, vr a2, vi a3] (x.1.toList ++ []) x.2 else none else none else none := by
  refine (op_aload_n (pc' := 542) rfl rfl rfl).trans ?_
  refine (op_aload_n (pc' := 543) rfl rfl rfl).trans ?_
  refine (op_iload_n (pc' := 544) rfl rfl rfl).trans ?_
  refine (op_iconst (pc' := 545) rfl rfl k32_1).trans ?_
  refine (op_iadd (pc' := 546) rfl rfl).trans ?_
  refine (op_iaload (pc' := 547) rfl rfl).trans (op_bind fun n546 => op_ite ?_)
  refine (op_aload_n (pc' := 548) rfl rfl rfl).trans ?_
  refine (op_iload_n (pc' := 549) rfl rfl rfl).trans ?_
  refine (op_iconst (pc' := 550) rfl rfl k32_2).trans ?_
  refine (op_iadd (pc' := 551) rfl rfl).trans ?_
  refine (op_iaload (pc' := 552) rfl rfl).trans (op_bind fun n551 => op_ite ?_)
  exact op_virtual (pc' := 555) (m := 0) rfl rfl rfl rfl rfl rfl rfl rfl
theorem B_0_555 {d : Nat} {h : am_H} {a0 : Option Nat} {a1 : Option Nat} {a2 : Option Nat} {a3 : Int32} {s0 : Int32} : Ev (d + 4) 0 555 [vr a0, vr a1, vr a2, vi a3] [vi s0] h = (a0).bind fun n560 => if (hkd h n560 = 100 ∨ hkd h n560 = 901) ∧ am_ix (a3 + 1) (hln h n560) then (a0).bind fun n565 => if (hkd h n565 = 100 ∨ hkd h n565 = 901) ∧ am_ix (a3 + 2) (hln h n565) then (a2).bind fun n566 => if hkd h n566 = 11 then (Cl (d + 3) 164 [vr a2, vi (hI h n560 (Int32.toNatClampNeg (a3 + 1))), vi (hI h n565 (Int32.toNatClampNeg (a3 + 2)))] h).bind fun x => Ev (d + 4) 0 569 [vr a0, vr a1, vr a2, vi a3] (x.1.toList ++ [vi s0]) x.2 else none else none else none := by
  refine (op_aload_n (pc' := 556) rfl rfl rfl).trans ?_
  refine (op_aload_n (pc' := 557) rfl rfl rfl).trans ?_
  refine (op_iload_n (pc' := 558) rfl rfl rfl).trans ?_
  refine (op_iconst (pc' := 559) rfl rfl k32_1).trans ?_
  refine (op_iadd (pc' := 560) rfl rfl).trans ?_
  refine (op_iaload (pc' := 561) rfl rfl).trans (op_bind fun n560 => op_ite ?_)
  refine (op_aload_n (pc' := 562) rfl rfl rfl).trans ?_
  refine (op_iload_n (pc' := 563) rfl rfl rfl).trans ?_
  refine (op_iconst (pc' := 564) rfl rfl k32_2).trans ?_
  refine (op_iadd (pc' := 565) rfl rfl).trans ?_
  refine (op_iaload (pc' := 566) rfl rfl).trans (op_bind fun n565 => op_ite ?_)
  exact op_virtual (pc' := 569) (m := 11) rfl rfl rfl rfl rfl rfl rfl rfl
theorem B_0_569 {d : Nat} {h : am_H} {a0 : Option Nat} {a1 : Option Nat} {a2 : Option Nat} {a3 : Int32} {s0 : Int32} {s1 : Int32} : Ev (d + 4) 0 569 [vr a0, vr a1, vr a2, vi a3] [vi s0, vi s1] h = if s1 = s0 then Ev (d + 4) 0 1421 [vr a0, vr a1, vr a2, vi a3] [] h else Ev (d + 4) 0 572 [vr a0, vr a1, vr a2, vi a3] [] h := by
  exact op_icmpeq (pc' := 572) rfl rfl
theorem B_0_572 {d : Nat} {h : am_H} {a0 : Option Nat} {a1 : Option Nat} {a2 : Option Nat} {a3 : Int32} : Ev (d + 4) 0 572 [vr a0, vr a1, vr a2, vi a3] [] h = if 0 = 0 ∨ 0 = 1 then some (some (vi 0), h) else none := by
  refine (op_iconst (pc' := 573) rfl rfl k32_0).trans ?_
  exact op_ireturnZ rfl rfl
theorem B_0_574 {d : Nat} {h : am_H} {a0 : Option Nat} {a1 : Option Nat} {a2 : Option Nat} {a3 : Int32} : Ev (d + 4) 0 574 [vr a0, vr a1, vr a2, vi a3] [] h = (a0).bind fun n579 => if (hkd h n579 = 100 ∨ hkd h n579 = 901) ∧ am_ix (a3 + 1) (hln h n579) then (a0).bind fun n584 => if (hkd h n584 = 100 ∨ hkd h n584 = 901) ∧ am_ix (a3 + 2) (hln h n584) then (a1).bind fun n585 => if hkd h n585 = 0 then (Cl (d + 3) 71 [vr a1, vi (hI h n579 (Int32.toNatClampNeg (a3 + 1))), vi (hI h n584 (Int32.toNatClampNeg (a3 + 2)))] h).bind fun x => Ev (d + 4) 0 588 [vr a0, vr a1, vr a2, vi a3] (x.1.toList ++ []) x.2 else none else none else none := by
  refine (op_aload_n (pc' := 575) rfl rfl rfl).trans ?_
  refine (op_aload_n (pc' := 576) rfl rfl rfl).trans ?_
  refine (op_iload_n (pc' := 577) rfl rfl rfl).trans ?_
  refine (op_iconst (pc' := 578) rfl rfl k32_1).trans ?_
  refine (op_iadd (pc' := 579) rfl rfl).trans ?_
  refine (op_iaload (pc' := 580) rfl rfl).trans (op_bind fun n579 => op_ite ?_)
  refine (op_aload_n (pc' := 581) rfl rfl rfl).trans ?_
  refine (op_iload_n (pc' := 582) rfl rfl rfl).trans ?_
  refine (op_iconst (pc' := 583) rfl rfl k32_2).trans ?_
  refine (op_iadd (pc' := 584) rfl rfl).trans ?_
  refine (op_iaload (pc' := 585) rfl rfl).trans (op_bind fun n584 => op_ite ?_)
  exact op_virtual (pc' := 588) (m := 0) rfl rfl rfl rfl rfl rfl rfl rfl
theorem B_0_588 {d : Nat} {h : am_H} {a0 : Option Nat} {a1 : Option Nat} {a2 : Option Nat} {a3 : Int32} {s0 : Int32} : Ev (d + 4) 0 588 [vr a0, vr a1, vr a2, vi a3] [vi s0] h = (a0).bind fun n593 => if (hkd h n593 = 100 ∨ hkd h n593 = 901) ∧ am_ix (a3 + 1) (hln h n593) then (a0).bind fun n598 => if (hkd h n598 = 100 ∨ hkd h n598 = 901) ∧ am_ix (a3 + 2) (hln h n598) then (a2).bind fun n599 => if hkd h n599 = 11 then (Cl (d + 3) 166 [vr a2, vi (hI h n593 (Int32.toNatClampNeg (a3 + 1))), vi (hI h n598 (Int32.toNatClampNeg (a3 + 2)))] h).bind fun x => Ev (d + 4) 0 602 [vr a0, vr a1, vr a2, vi a3] (x.1.toList ++ [vi s0]) x.2 else none else none else none := by
  refine (op_aload_n (pc' := 589) rfl rfl rfl).trans ?_
  refine (op_aload_n (pc' := 590) rfl rfl rfl).trans ?_
  refine (op_iload_n (pc' := 591) rfl rfl rfl).trans ?_
  refine (op_iconst (pc' := 592) rfl rfl k32_1).trans ?_
  refine (op_iadd (pc' := 593) rfl rfl).trans ?_
  refine (op_iaload (pc' := 594) rfl rfl).trans (op_bind fun n593 => op_ite ?_)
  refine (op_aload_n (pc' := 595) rfl rfl rfl).trans ?_
  refine (op_iload_n (pc' := 596) rfl rfl rfl).trans ?_
  refine (op_iconst (pc' := 597) rfl rfl k32_2).trans ?_
  refine (op_iadd (pc' := 598) rfl rfl).trans ?_
  refine (op_iaload (pc' := 599) rfl rfl).trans (op_bind fun n598 => op_ite ?_)
  exact op_virtual (pc' := 602) (m := 11) rfl rfl rfl rfl rfl rfl rfl rfl
theorem B_0_602 {d : Nat} {h : am_H} {a0 : Option Nat} {a1 : Option Nat} {a2 : Option Nat} {a3 : Int32} {s0 : Int32} {s1 : Int32} : Ev (d + 4) 0 602 [vr a0, vr a1, vr a2, vi a3] [vi s0, vi s1] h = if s1 = s0 then Ev (d + 4) 0 1421 [vr a0, vr a1, vr a2, vi a3] [] h else Ev (d + 4) 0 605 [vr a0, vr a1, vr a2, vi a3] [] h := by
  exact op_icmpeq (pc' := 605) rfl rfl
theorem B_0_605 {d : Nat} {h : am_H} {a0 : Option Nat} {a1 : Option Nat} {a2 : Option Nat} {a3 : Int32} : Ev (d + 4) 0 605 [vr a0, vr a1, vr a2, vi a3] [] h = if 0 = 0 ∨ 0 = 1 then some (some (vi 0), h) else none := by
  refine (op_iconst (pc' := 606) rfl rfl k32_0).trans ?_
  exact op_ireturnZ rfl rfl
theorem B_0_607 {d : Nat} {h : am_H} {a0 : Option Nat} {a1 : Option Nat} {a2 : Option Nat} {a3 : Int32} : Ev (d + 4) 0 607 [vr a0, vr a1, vr a2, vi a3] [] h = (a0).bind fun n612 => if (hkd h n612 = 100 ∨ hkd h n612 = 901) ∧ am_ix (a3 + 1) (hln h n612) then (a0).bind fun n617 => if (hkd h n617 = 100 ∨ hkd h n617 = 901) ∧ am_ix (a3 + 2) (hln h n617) then (a0).bind fun n622 => if (hkd h n622 = 100 ∨ hkd h n622 = 901) ∧ am_ix (a3 + 3) (hln h n622) then (a1).bind fun n623 => if hkd h n623 = 0 then (Cl (d + 3) 72 [vr a1, vi (hI h n612 (Int32.toNatClampNeg (a3 + 1))), vi (hI h n617 (Int32.toNatClampNeg (a3 + 2))), vi (hI h n622 (Int32.toNatClampNeg (a3 + 3)))] h).bind fun x => Ev (d + 4) 0 626 [vr a0, vr a1, vr a2, vi a3] (x.1.toList ++ []) x.2 else none else none else none else none := by
  refine (op_aload_n (pc' := 608) rfl rfl rfl).trans ?_
  refine (op_aload_n (pc' := 609) rfl rfl rfl).trans ?_
  refine (op_iload_n (pc' := 610) rfl rfl rfl).trans ?_
  refine (op_iconst (pc' := 611) rfl rfl k32_1).trans ?_
  refine (op_iadd (pc' := 612) rfl rfl).trans ?_
  refine (op_iaload (pc' := 613) rfl rfl).trans (op_bind fun n612 => op_ite ?_)
  refine (op_aload_n (pc' := 614) rfl rfl rfl).trans ?_
  refine (op_iload_n (pc' := 615) rfl rfl rfl).trans ?_
  refine (op_iconst (pc' := 616) rfl rfl k32_2).trans ?_
  refine (op_iadd (pc' := 617) rfl rfl).trans ?_
  refine (op_iaload (pc' := 618) rfl rfl).trans (op_bind fun n617 => op_ite ?_)
  refine (op_aload_n (pc' := 619) rfl rfl rfl).trans ?_
  refine (op_iload_n (pc' := 620) rfl rfl rfl).trans ?_
  refine (op_iconst (pc' := 621) rfl rfl k32_3).trans ?_
  refine (op_iadd (pc' := 622) rfl rfl).trans ?_
  refine (op_iaload (pc' := 623) rfl rfl).trans (op_bind fun n622 => op_ite ?_)
  exact op_virtual (pc' := 626) (m := 0) rfl rfl rfl rfl rfl rfl rfl rfl
theorem B_0_626 {d : Nat} {h : am_H} {a0 : Option Nat} {a1 : Option Nat} {a2 : Option Nat} {a3 : Int32} {s0 : Int32} : Ev (d + 4) 0 626 [vr a0, vr a1, vr a2, vi a3] [vi s0] h = (a0).bind fun n631 => if (hkd h n631 = 100 ∨ hkd h n631 = 901) ∧ am_ix (a3 + 1) (hln h n631) then (a0).bind fun n636 => if (hkd h n636 = 100 ∨ hkd h n636 = 901) ∧ am_ix (a3 + 2) (hln h n636) then (a0).bind fun n641 => if (hkd h n641 = 100 ∨ hkd h n641 = 901) ∧ am_ix (a3 + 3) (hln h n641) then (a2).bind fun n642 => if hkd h n642 = 11 then (Cl (d + 3) 167 [vr a2, vi (hI h n631 (Int32.toNatClampNeg (a3 + 1))), vi (hI h n636 (Int32.toNatClampNeg (a3 + 2))), vi (hI h n641 (Int32.toNatClampNeg (a3 + 3)))] h).bind fun x => Ev (d + 4) 0 645 [vr a0, vr a1, vr a2, vi a3] (x.1.toList ++ [vi s0]) x.2 else none else none else none else none := by
  refine (op_aload_n (pc' := 627) rfl rfl rfl).trans ?_
  refine (op_aload_n (pc' := 628) rfl rfl rfl).trans ?_
  refine (op_iload_n (pc' := 629) rfl rfl rfl).trans ?_
  refine (op_iconst (pc' := 630) rfl rfl k32_1).trans ?_
  refine (op_iadd (pc' := 631) rfl rfl).trans ?_
  refine (op_iaload (pc' := 632) rfl rfl).trans (op_bind fun n631 => op_ite ?_)
  refine (op_aload_n (pc' := 633) rfl rfl rfl).trans ?_
  refine (op_iload_n (pc' := 634) rfl rfl rfl).trans ?_
  refine (op_iconst (pc' := 635) rfl rfl k32_2).trans ?_
  refine (op_iadd (pc' := 636) rfl rfl).trans ?_
  refine (op_iaload (pc' := 637) rfl rfl).trans (op_bind fun n636 => op_ite ?_)
  refine (op_aload_n (pc' := 638) rfl rfl rfl).trans ?_
  refine (op_iload_n (pc' := 639) rfl rfl rfl).trans ?_
  refine (op_iconst (pc' := 640) rfl rfl k32_3).trans ?_
  refine (op_iadd (pc' := 641) rfl rfl).trans ?_
  refine (op_iaload (pc' := 642) rfl rfl).trans (op_bind fun n641 => op_ite ?_)
  exact op_virtual (pc' := 645) (m := 11) rfl rfl rfl rfl rfl rfl rfl rfl
theorem B_0_645 {d : Nat} {h : am_H} {a0 : Option Nat} {a1 : Option Nat} {a2 : Option Nat} {a3 : Int32} {s0 : Int32} {s1 : Int32} : Ev (d + 4) 0 645 [vr a0, vr a1, vr a2, vi a3] [vi s0, vi s1] h = if s1 = s0 then Ev (d + 4) 0 1421 [vr a0, vr a1, vr a2, vi a3] [] h else Ev (d + 4) 0 648 [vr a0, vr a1, vr a2, vi a3] [] h := by
  exact op_icmpeq (pc' := 648) rfl rfl
theorem B_0_648 {d : Nat} {h : am_H} {a0 : Option Nat} {a1 : Option Nat} {a2 : Option Nat} {a3 : Int32} : Ev (d + 4) 0 648 [vr a0, vr a1, vr a2, vi a3] [] h = if 0 = 0 ∨ 0 = 1 then some (some (vi 0), h) else none := by
  refine (op_iconst (pc' := 649) rfl rfl k32_0).trans ?_
  exact op_ireturnZ rfl rfl
theorem B_0_650 {d : Nat} {h : am_H} {a0 : Option Nat} {a1 : Option Nat} {a2 : Option Nat} {a3 : Int32} : Ev (d + 4) 0 650 [vr a0, vr a1, vr a2, vi a3] [] h = (a0).bind fun n655 => if (hkd h n655 = 100 ∨ hkd h n655 = 901) ∧ am_ix (a3 + 1) (hln h n655) then (a0).bind fun n664 => if (hkd h n664 = 100 ∨ hkd h n664 = 901) ∧ am_ix (a3 + 2) (hln h n664) then (a0).bind fun n675 => if (hkd h n675 = 100 ∨ hkd h n675 = 901) ∧ am_ix (a3 + 3) (hln h n675) then (a1).bind fun n676 => if hkd h n676 = 0 then (Cl (d + 3) 79 [vr a1, vl (((Int32.toInt64 (hI h n655 (Int32.toNatClampNeg (a3 + 1)))) <<< (Int32.toInt64 32 &&& 63)) ||| ((Int32.toInt64 (hI h n664 (Int32.toNatClampNeg (a3 + 2)))) &&& 4294967295)), vi (hI h n675 (Int32.toNatClampNeg (a3 + 3)))] h).bind fun x => Ev (d + 4) 0 679 [vr a0, vr a1, vr a2, vi a3] (x.1.toList ++ []) x.2 else none else none else none else none := by
  refine (op_aload_n (pc' := 651) rfl rfl rfl).trans ?_
  refine (op_aload_n (pc' := 652) rfl rfl rfl).trans ?_
  refine (op_iload_n (pc' := 653) rfl rfl rfl).trans ?_
  refine (op_iconst (pc' := 654) rfl rfl k32_1).trans ?_
  refine (op_iadd (pc' := 655) rfl rfl).trans ?_
  refine (op_iaload (pc' := 656) rfl rfl).trans (op_bind fun n655 => op_ite ?_)
  refine (op_i2l (pc' := 657) rfl rfl).trans ?_
  refine (op_bipush (pc' := 659) rfl rfl k32_32).trans ?_
  refine (op_lshl (pc' := 660) rfl rfl).trans ?_
  refine (op_aload_n (pc' := 661) rfl rfl rfl).trans ?_
  refine (op_iload_n (pc' := 662) rfl rfl rfl).trans ?_
  refine (op_iconst (pc' := 663) rfl rfl k32_2).trans ?_
  refine (op_iadd (pc' := 664) rfl rfl).trans ?_
  refine (op_iaload (pc' := 665) rfl rfl).trans (op_bind fun n664 => op_ite ?_)
  refine (op_i2l (pc' := 666) rfl rfl).trans ?_
  refine (op_ldc2_w (pc' := 669) rfl rfl k64_4294967295).trans ?_
  refine (op_land (pc' := 670) rfl rfl).trans ?_
  refine (op_lor (pc' := 671) rfl rfl).trans ?_
  refine (op_aload_n (pc' := 672) rfl rfl rfl).trans ?_
  refine (op_iload_n (pc' := 673) rfl rfl rfl).trans ?_
  refine (op_iconst (pc' := 674) rfl rfl k32_3).trans ?_
  refine (op_iadd (pc' := 675) rfl rfl).trans ?_
  refine (op_iaload (pc' := 676) rfl rfl).trans (op_bind fun n675 => op_ite ?_)
  exact op_virtual (pc' := 679) (m := 0) rfl rfl rfl rfl rfl rfl rfl rfl
theorem B_0_679 {d : Nat} {h : am_H} {a0 : Option Nat} {a1 : Option Nat} {a2 : Option Nat} {a3 : Int32} {s0 : Int32} : Ev (d + 4) 0 679 [vr a0, vr a1, vr a2, vi a3] [vi s0] h = (a0).bind fun n684 => if (hkd h n684 = 100 ∨ hkd h n684 = 901) ∧ am_ix (a3 + 1) (hln h n684) then (a0).bind fun n693 => if (hkd h n693 = 100 ∨ hkd h n693 = 901) ∧ am_ix (a3 + 2) (hln h n693) then (a0).bind fun n704 => if (hkd h n704 = 100 ∨ hkd h n704 = 901) ∧ am_ix (a3 + 3) (hln h n704) then (a2).bind fun n705 => if hkd h n705 = 11 then (Cl (d + 3) 174 [vr a2, vl (((Int32.toInt64 (hI h n684 (Int32.toNatClampNeg (a3 + 1)))) <<< (Int32.toInt64 32 &&& 63)) ||| ((Int32.toInt64 (hI h n693 (Int32.toNatClampNeg (a3 + 2)))) &&& 4294967295)), vi (hI h n704 (Int32.toNatClampNeg (a3 + 3)))] h).bind fun x => Ev (d + 4) 0 708 [vr a0, vr a1, vr a2, vi a3] (x.1.toList ++ [vi s0]) x.2 else none else none else none else none := by
  refine (op_aload_n (pc' := 680) rfl rfl rfl).trans ?_
  refine (op_aload_n (pc' := 681) rfl rfl rfl).trans ?_
  refine (op_iload_n (pc' := 682) rfl rfl rfl).trans ?_
  refine (op_iconst (pc' := 683) rfl rfl k32_1).trans ?_
  refine (op_iadd (pc' := 684) rfl rfl).trans ?_
  refine (op_iaload (pc' := 685) rfl rfl).trans (op_bind fun n684 => op_ite ?_)
  refine (op_i2l (pc' := 686) rfl rfl).trans ?_
  refine (op_bipush (pc' := 688) rfl rfl k32_32).trans ?_
  refine (op_lshl (pc' := 689) rfl rfl).trans ?_
  refine (op_aload_n (pc' := 690) rfl rfl rfl).trans ?_
  refine (op_iload_n (pc' := 691) rfl rfl rfl).trans ?_
  refine (op_iconst (pc' := 692) rfl rfl k32_2).trans ?_
  refine (op_iadd (pc' := 693) rfl rfl).trans ?_
  refine (op_iaload (pc' := 694) rfl rfl).trans (op_bind fun n693 => op_ite ?_)
  refine (op_i2l (pc' := 695) rfl rfl).trans ?_
  refine (op_ldc2_w (pc' := 698) rfl rfl k64_4294967295).trans ?_
  refine (op_land (pc' := 699) rfl rfl).trans ?_
  refine (op_lor (pc' := 700) rfl rfl).trans ?_
  refine (op_aload_n (pc' := 701) rfl rfl rfl).trans ?_
  refine (op_iload_n (pc' := 702) rfl rfl rfl).trans ?_
  refine (op_iconst (pc' := 703) rfl rfl k32_3).trans ?_
  refine (op_iadd (pc' := 704) rfl rfl).trans ?_
  refine (op_iaload (pc' := 705) rfl rfl).trans (op_bind fun n704 => op_ite ?_)
  exact op_virtual (pc' := 708) (m := 11) rfl rfl rfl rfl rfl rfl rfl rfl
theorem B_0_708 {d : Nat} {h : am_H} {a0 : Option Nat} {a1 : Option Nat} {a2 : Option Nat} {a3 : Int32} {s0 : Int32} {s1 : Int32} : Ev (d + 4) 0 708 [vr a0, vr a1, vr a2, vi a3] [vi s0, vi s1] h = if s1 = s0 then Ev (d + 4) 0 1421 [vr a0, vr a1, vr a2, vi a3] [] h else Ev (d + 4) 0 711 [vr a0, vr a1, vr a2, vi a3] [] h := by
  exact op_icmpeq (pc' := 711) rfl rfl
theorem B_0_711 {d : Nat} {h : am_H} {a0 : Option Nat} {a1 : Option Nat} {a2 : Option Nat} {a3 : Int32} : Ev (d + 4) 0 711 [vr a0, vr a1, vr a2, vi a3] [] h = if 0 = 0 ∨ 0 = 1 then some (some (vi 0), h) else none := by
  refine (op_iconst (pc' := 712) rfl rfl k32_0).trans ?_
  exact op_ireturnZ rfl rfl
theorem B_0_713 {d : Nat} {h : am_H} {a0 : Option Nat} {a1 : Option Nat} {a2 : Option Nat} {a3 : Int32} : Ev (d + 4) 0 713 [vr a0, vr a1, vr a2, vi a3] [] h = (a1).bind fun n714 => if hkd h n714 = 0 then (Cl (d + 3) 81 [vr a1] h).bind fun x => Ev (d + 4) 0 717 [vr a0, vr a1, vr a2, vi a3] (x.1.toList ++ []) x.2 else none := by
  refine (op_aload_n (pc' := 714) rfl rfl rfl).trans ?_
  exact op_virtual (pc' := 717) (m := 0) rfl rfl rfl rfl rfl rfl rfl rfl
theorem B_0_717 {d : Nat} {h : am_H} {a0 : Option Nat} {a1 : Option Nat} {a2 : Option Nat} {a3 : Int32} {s0 : Int32} : Ev (d + 4) 0 717 [vr a0, vr a1, vr a2, vi a3] [vi s0] h = (a2).bind fun n718 => if hkd h n718 = 11 then (Cl (d + 3) 175 [vr a2] h).bind fun x => Ev (d + 4) 0 721 [vr a0, vr a1, vr a2, vi a3] (x.1.toList ++ [vi s0]) x.2 else none := by
  refine (op_aload_n (pc' := 718) rfl rfl rfl).trans ?_
  exact op_virtual (pc' := 721) (m := 11) rfl rfl rfl rfl rfl rfl rfl rfl
theorem B_0_721 {d : Nat} {h : am_H} {a0 : Option Nat} {a1 : Option Nat} {a2 : Option Nat} {a3 : Int32} {s0 : Int32} {s1 : Int32} : Ev (d + 4) 0 721 [vr a0, vr a1, vr a2, vi a3] [vi s0, vi s1] h = if s1 = s0 then Ev (d + 4) 0 1421 [vr a0, vr a1, vr a2, vi a3] [] h else Ev (d + 4) 0 724 [vr a0, vr a1, vr a2, vi a3] [] h := by
  exact op_icmpeq (pc' := 724) rfl rfl
theorem B_0_724 {d : Nat} {h : am_H} {a0 : Option Nat} {a1 : Option Nat} {a2 : Option Nat} {a3 : Int32} : Ev (d + 4) 0 724 [vr a0, vr a1, vr a2, vi a3] [] h = if 0 = 0 ∨ 0 = 1 then some (some (vi 0), h) else none := by
  refine (op_iconst (pc' := 725) rfl rfl k32_0).trans ?_
  exact op_ireturnZ rfl rfl
theorem B_0_726 {d : Nat} {h : am_H} {a0 : Option Nat} {a1 : Option Nat} {a2 : Option Nat} {a3 : Int32} : Ev (d + 4) 0 726 [vr a0, vr a1, vr a2, vi a3] [] h = (a0).bind fun n731 => if (hkd h n731 = 100 ∨ hkd h n731 = 901) ∧ am_ix (a3 + 1) (hln h n731) then (a1).bind fun n732 => if hkd h n732 = 0 then (Cl (d + 3) 83 [vr a1, vi (hI h n731 (Int32.toNatClampNeg (a3 + 1)))] h).bind fun x => Ev (d + 4) 0 735 [vr a0, vr a1, vr a2, vi a3] (x.1.toList ++ []) x.2 else none else none := by
  refine (op_aload_n (pc' := 727) rfl rfl rfl).trans ?_
  refine (op_aload_n (pc' := 728) rfl rfl rfl).trans ?_
  refine (op_iload_n (pc' := 729) rfl rfl rfl).trans ?_
  refine (op_iconst (pc' := 730) rfl rfl k32_1).trans ?_
  refine (op_iadd (pc' := 731) rfl rfl).trans ?_
  refine (op_iaload (pc' := 732) rfl rfl).trans (op_bind fun n731 => op_ite ?_)
  exact op_virtual (pc' := 735) (m := 0) rfl rfl rfl rfl rfl rfl rfl rfl
theorem B_0_735 {d : Nat} {h : am_H} {a0 : Option Nat} {a1 : Option Nat} {a2 : Option Nat} {a3 : Int32} {s0 : Int32} : Ev (d + 4) 0 735 [vr a0, vr a1, vr a2, vi a3] [vi s0] h = (a0).bind fun n740 => if (hkd h n740 = 100 ∨ hkd h n740 = 901) ∧ am_ix (a3 + 1) (hln h n740) then (a2).bind fun n741 => if hkd h n741 = 11 then (Cl (d + 3) 186 [vr a2, vi (hI h n740 (Int32.toNatClampNeg (a3 + 1)))] h).bind fun x => Ev (d + 4) 0 744 [vr a0, vr a1, vr a2, vi a3] (x.1.toList ++ [vi s0]) x.2 else none else none := by
  refine (op_aload_n (pc' := 736) rfl rfl rfl).trans ?_
  refine (op_aload_n (pc' := 737) rfl rfl rfl).trans ?_
  refine (op_iload_n (pc' := 738) rfl rfl rfl).trans ?_
  refine (op_iconst (pc' := 739) rfl rfl k32_1).trans ?_
  refine (op_iadd (pc' := 740) rfl rfl).trans ?_
  refine (op_iaload (pc' := 741) rfl rfl).trans (op_bind fun n740 => op_ite ?_)
  exact op_virtual (pc' := 744) (m := 11) rfl rfl rfl rfl rfl rfl rfl rfl
theorem B_0_744 {d : Nat} {h : am_H} {a0 : Option Nat} {a1 : Option Nat} {a2 : Option Nat} {a3 : Int32} {s0 : Int32} {s1 : Int32} : Ev (d + 4) 0 744 [vr a0, vr a1, vr a2, vi a3] [vi s0, vi s1] h = if s1 = s0 then Ev (d + 4) 0 1421 [vr a0, vr a1, vr a2, vi a3] [] h else Ev (d + 4) 0 747 [vr a0, vr a1, vr a2, vi a3] [] h := by
  exact op_icmpeq (pc' := 747) rfl rfl
theorem B_0_747 {d : Nat} {h : am_H} {a0 : Option Nat} {a1 : Option Nat} {a2 : Option Nat} {a3 : Int32} : Ev (d + 4) 0 747 [vr a0, vr a1, vr a2, vi a3] [] h = if 0 = 0 ∨ 0 = 1 then some (some (vi 0), h) else none := by
  refine (op_iconst (pc' := 748) rfl rfl k32_0).trans ?_
  exact op_ireturnZ rfl rfl
theorem B_0_749 {d : Nat} {h : am_H} {a0 : Option Nat} {a1 : Option Nat} {a2 : Option Nat} {a3 : Int32} : Ev (d + 4) 0 749 [vr a0, vr a1, vr a2, vi a3] [] h = (a0).bind fun n754 => if (hkd h n754 = 100 ∨ hkd h n754 = 901) ∧ am_ix (a3 + 1) (hln h n754) then (a0).bind fun n759 => if (hkd h n759 = 100 ∨ hkd h n759 = 901) ∧ am_ix (a3 + 2) (hln h n759) then (a0).bind fun n764 => if (hkd h n764 = 100 ∨ hkd h n764 = 901) ∧ am_ix (a3 + 3) (hln h n764) then (a1).bind fun n765 => if hkd h n765 = 0 then (Cl (d + 3) 84 [vr a1, vi (hI h n754 (Int32.toNatClampNeg (a3 + 1))), vi (hI h n759 (Int32.toNatClampNeg (a3 + 2))), vi (hI h n764 (Int32.toNatClampNeg (a3 + 3)))] h).bind fun x => Ev (d + 4) 0 768 [vr a0, vr a1, vr a2, vi a3] (x.1.toList ++ []) x.2 else none else none else none else none := by
  refine (op_aload_n (pc' := 750) rfl rfl rfl).trans ?_
  refine (op_aload_n (pc' := 751) rfl rfl rfl).trans ?_
  refine (op_iload_n (pc' := 752) rfl rfl rfl).trans ?_
  refine (op_iconst (pc' := 753) rfl rfl k32_1).trans ?_
  refine (op_iadd (pc' := 754) rfl rfl).trans ?_
  refine (op_iaload (pc' := 755) rfl rfl).trans (op_bind fun n754 => op_ite ?_)
  refine (op_aload_n (pc' := 756) rfl rfl rfl).trans ?_
  refine (op_iload_n (pc' := 757) rfl rfl rfl).trans ?_
  refine (op_iconst (pc' := 758) rfl rfl k32_2).trans ?_
  refine (op_iadd (pc' := 759) rfl rfl).trans ?_
  refine (op_iaload (pc' := 760) rfl rfl).trans (op_bind fun n759 => op_ite ?_)
  refine (op_aload_n (pc' := 761) rfl rfl rfl).trans ?_
  refine (op_iload_n (pc' := 762) rfl rfl rfl).trans ?_
  refine (op_iconst (pc' := 763) rfl rfl k32_3).trans ?_
  refine (op_iadd (pc' := 764) rfl rfl).trans ?_
  refine (op_iaload (pc' := 765) rfl rfl).trans (op_bind fun n764 => op_ite ?_)
  exact op_virtual (pc' := 768) (m := 0) rfl rfl rfl rfl rfl rfl rfl rfl
theorem B_0_768 {d : Nat} {h : am_H} {a0 : Option Nat} {a1 : Option Nat} {a2 : Option Nat} {a3 : Int32} {s0 : Int64} : Ev (d + 4) 0 768 [vr a0, vr a1, vr a2, vi a3] [vl s0] h = (a0).bind fun n773 => if (hkd h n773 = 100 ∨ hkd h n773 = 901) ∧ am_ix (a3 + 1) (hln h n773) then (a0).bind fun n778 => if (hkd h n778 = 100 ∨ hkd h n778 = 901) ∧ am_ix (a3 + 2) (hln h n778) then (a0).bind fun n783 => if (hkd h n783 = 100 ∨ hkd h n783 = 901) ∧ am_ix (a3 + 3) (hln h n783) then (a2).bind fun n784 => if hkd h n784 = 11 then (Cl (d + 3) 187 [vr a2, vi (hI h n773 (Int32.toNatClampNeg (a3 + 1))), vi (hI h n778 (Int32.toNatClampNeg (a3 + 2))), vi (hI h n783 (Int32.toNatClampNeg (a3 + 3)))] h).bind fun x => Ev (d + 4) 0 787 [vr a0, vr a1, vr a2, vi a3] (x.1.toList ++ [vl s0]) x.2 else none else none else none else none := by
  refine (op_aload_n (pc' := 769) rfl rfl rfl).trans ?_
  refine (op_aload_n (pc' := 770) rfl rfl rfl).trans ?_
  refine (op_iload_n (pc' := 771) rfl rfl rfl).trans ?_
  refine (op_iconst (pc' := 772) rfl rfl k32_1).trans ?_
  refine (op_iadd (pc' := 773) rfl rfl).trans ?_
  refine (op_iaload (pc' := 774) rfl rfl).trans (op_bind fun n773 => op_ite ?_)
  refine (op_aload_n (pc' := 775) rfl rfl rfl).trans ?_
  refine (op_iload_n (pc' := 776) rfl rfl rfl).trans ?_
  refine (op_iconst (pc' := 777) rfl rfl k32_2).trans ?_
  refine (op_iadd (pc' := 778) rfl rfl).trans ?_
  refine (op_iaload (pc' := 779) rfl rfl).trans (op_bind fun n778 => op_ite ?_)
  refine (op_aload_n (pc' := 780) rfl rfl rfl).trans ?_
  refine (op_iload_n (pc' := 781) rfl rfl rfl).trans ?_
  refine (op_iconst (pc' := 782) rfl rfl k32_3).trans ?_
  refine (op_iadd (pc' := 783) rfl rfl).trans ?_
  refine (op_iaload (pc' := 784) rfl rfl).trans (op_bind fun n783 => op_ite ?_)
  exact op_virtual (pc' := 787) (m := 11) rfl rfl rfl rfl rfl rfl rfl rfl
theorem B_0_787 {d : Nat} {h : am_H} {a0 : Option Nat} {a1 : Option Nat} {a2 : Option Nat} {a3 : Int32} {s0 : Int64} {s1 : Int64} : Ev (d + 4) 0 787 [vr a0, vr a1, vr a2, vi a3] [vl s0, vl s1] h = if (lg_cmp s1 s0) = 0 then Ev (d + 4) 0 1421 [vr a0, vr a1, vr a2, vi a3] [] h else Ev (d + 4) 0 791 [vr a0, vr a1, vr a2, vi a3] [] h := by
  refine (op_lcmp (pc' := 788) rfl rfl).trans ?_
  exact op_ifeq (pc' := 791) rfl rfl
theorem B_0_791 {d : Nat} {h : am_H} {a0 : Option Nat} {a1 : Option Nat} {a2 : Option Nat} {a3 : Int32} : Ev (d + 4) 0 791 [vr a0, vr a1, vr a2, vi a3] [] h = if 0 = 0 ∨ 0 = 1 then some (some (vi 0), h) else none := by
  refine (op_iconst (pc' := 792) rfl rfl k32_0).trans ?_
  exact op_ireturnZ rfl rfl
theorem B_0_793 {d : Nat} {h : am_H} {a0 : Option Nat} {a1 : Option Nat} {a2 : Option Nat} {a3 : Int32} : Ev (d + 4) 0 793 [vr a0, vr a1, vr a2, vi a3] [] h = (a0).bind fun n798 => if (hkd h n798 = 100 ∨ hkd h n798 = 901) ∧ am_ix (a3 + 1) (hln h n798) then (a0).bind fun n803 => if (hkd h n803 = 100 ∨ hkd h n803 = 901) ∧ am_ix (a3 + 2) (hln h n803) then (a0).bind fun n808 => if (hkd h n808 = 100 ∨ hkd h n808 = 901) ∧ am_ix (a3 + 3) (hln h n808) then (a1).bind fun n809 => if hkd h n809 = 0 then (Cl (d + 3) 92 [vr a1, vi (hI h n798 (Int32.toNatClampNeg (a3 + 1))), vi (hI h n803 (Int32.toNatClampNeg (a3 + 2))), vi (hI h n808 (Int32.toNatClampNeg (a3 + 3)))] h).bind fun x => Ev (d + 4) 0 812 [vr a0, vr a1, vr a2, vi a3] (x.1.toList ++ []) x.2 else none else none else none else none := by
  refine (op_aload_n (pc' := 794) rfl rfl rfl).trans ?_
  refine (op_aload_n (pc' := 795) rfl rfl rfl).trans ?_
  refine (op_iload_n (pc' := 796) rfl rfl rfl).trans ?_
  refine (op_iconst (pc' := 797) rfl rfl k32_1).trans ?_
  refine (op_iadd (pc' := 798) rfl rfl).trans ?_
  refine (op_iaload (pc' := 799) rfl rfl).trans (op_bind fun n798 => op_ite ?_)
  refine (op_aload_n (pc' := 800) rfl rfl rfl).trans ?_
  refine (op_iload_n (pc' := 801) rfl rfl rfl).trans ?_
  refine (op_iconst (pc' := 802) rfl rfl k32_2).trans ?_
  refine (op_iadd (pc' := 803) rfl rfl).trans ?_
  refine (op_iaload (pc' := 804) rfl rfl).trans (op_bind fun n803 => op_ite ?_)
  refine (op_aload_n (pc' := 805) rfl rfl rfl).trans ?_
  refine (op_iload_n (pc' := 806) rfl rfl rfl).trans ?_
  refine (op_iconst (pc' := 807) rfl rfl k32_3).trans ?_
  refine (op_iadd (pc' := 808) rfl rfl).trans ?_
  refine (op_iaload (pc' := 809) rfl rfl).trans (op_bind fun n808 => op_ite ?_)
  exact op_virtual (pc' := 812) (m := 0) rfl rfl rfl rfl rfl rfl rfl rfl
theorem B_0_812 {d : Nat} {h : am_H} {a0 : Option Nat} {a1 : Option Nat} {a2 : Option Nat} {a3 : Int32} {s0 : Int64} : Ev (d + 4) 0 812 [vr a0, vr a1, vr a2, vi a3] [vl s0] h = (a0).bind fun n817 => if (hkd h n817 = 100 ∨ hkd h n817 = 901) ∧ am_ix (a3 + 1) (hln h n817) then (a0).bind fun n822 => if (hkd h n822 = 100 ∨ hkd h n822 = 901) ∧ am_ix (a3 + 2) (hln h n822) then (a0).bind fun n827 => if (hkd h n827 = 100 ∨ hkd h n827 = 901) ∧ am_ix (a3 + 3) (hln h n827) then (a2).bind fun n828 => if hkd h n828 = 11 then (Cl (d + 3) 192 [vr a2, vi (hI h n817 (Int32.toNatClampNeg (a3 + 1))), vi (hI h n822 (Int32.toNatClampNeg (a3 + 2))), vi (hI h n827 (Int32.toNatClampNeg (a3 + 3)))] h).bind fun x => Ev (d + 4) 0 831 [vr a0, vr a1, vr a2, vi a3] (x.1.toList ++ [vl s0]) x.2 else none else none else none else none := by
  refine (op_aload_n (pc' := 813) rfl rfl rfl).trans ?_
  refine (op_aload_n (pc' := 814) rfl rfl rfl).trans ?_
  refine (op_iload_n (pc' := 815) rfl rfl rfl).trans ?_
  refine (op_iconst (pc' := 816) rfl rfl k32_1).trans ?_
  refine (op_iadd (pc' := 817) rfl rfl).trans ?_
  refine (op_iaload (pc' := 818) rfl rfl).trans (op_bind fun n817 => op_ite ?_)
  refine (op_aload_n (pc' := 819) rfl rfl rfl).trans ?_
  refine (op_iload_n (pc' := 820) rfl rfl rfl).trans ?_
  refine (op_iconst (pc' := 821) rfl rfl k32_2).trans ?_
  refine (op_iadd (pc' := 822) rfl rfl).trans ?_
  refine (op_iaload (pc' := 823) rfl rfl).trans (op_bind fun n822 => op_ite ?_)
  refine (op_aload_n (pc' := 824) rfl rfl rfl).trans ?_
  refine (op_iload_n (pc' := 825) rfl rfl rfl).trans ?_
  refine (op_iconst (pc' := 826) rfl rfl k32_3).trans ?_
  refine (op_iadd (pc' := 827) rfl rfl).trans ?_
  refine (op_iaload (pc' := 828) rfl rfl).trans (op_bind fun n827 => op_ite ?_)
  exact op_virtual (pc' := 831) (m := 11) rfl rfl rfl rfl rfl rfl rfl rfl
theorem B_0_831 {d : Nat} {h : am_H} {a0 : Option Nat} {a1 : Option Nat} {a2 : Option Nat} {a3 : Int32} {s0 : Int64} {s1 : Int64} : Ev (d + 4) 0 831 [vr a0, vr a1, vr a2, vi a3] [vl s0, vl s1] h = if (lg_cmp s1 s0) = 0 then Ev (d + 4) 0 1421 [vr a0, vr a1, vr a2, vi a3] [] h else Ev (d + 4) 0 835 [vr a0, vr a1, vr a2, vi a3] [] h := by
  refine (op_lcmp (pc' := 832) rfl rfl).trans ?_
  exact op_ifeq (pc' := 835) rfl rfl
theorem B_0_835 {d : Nat} {h : am_H} {a0 : Option Nat} {a1 : Option Nat} {a2 : Option Nat} {a3 : Int32} : Ev (d + 4) 0 835 [vr a0, vr a1, vr a2, vi a3] [] h = if 0 = 0 ∨ 0 = 1 then some (some (vi 0), h) else none := by
  refine (op_iconst (pc' := 836) rfl rfl k32_0).trans ?_
  exact op_ireturnZ rfl rfl
theorem B_0_837 {d : Nat} {h : am_H} {a0 : Option Nat} {a1 : Option Nat} {a2 : Option Nat} {a3 : Int32} : Ev (d + 4) 0 837 [vr a0, vr a1, vr a2, vi a3] [] h = (a0).bind fun n842 => if (hkd h n842 = 100 ∨ hkd h n842 = 901) ∧ am_ix (a3 + 1) (hln h n842) then (a0).bind fun n847 => if (hkd h n847 = 100 ∨ hkd h n847 = 901) ∧ am_ix (a3 + 2) (hln h n847) then (a1).bind fun n848 => if hkd h n848 = 0 then (Cl (d + 3) 102 [vr a1, vi (hI h n842 (Int32.toNatClampNeg (a3 + 1))), vi (hI h n847 (Int32.toNatClampNeg (a3 + 2)))] h).bind fun x => Ev (d + 4) 0 851 [vr a0, vr a1, vr a2, vi a3] (x.1.toList ++ []) x.2 else none else none else none := by
  refine (op_aload_n (pc' := 838) rfl rfl rfl).trans ?_
  refine (op_aload_n (pc' := 839) rfl rfl rfl).trans ?_
  refine (op_iload_n (pc' := 840) rfl rfl rfl).trans ?_
  refine (op_iconst (pc' := 841) rfl rfl k32_1).trans ?_
  refine (op_iadd (pc' := 842) rfl rfl).trans ?_
  refine (op_iaload (pc' := 843) rfl rfl).trans (op_bind fun n842 => op_ite ?_)
  refine (op_aload_n (pc' := 844) rfl rfl rfl).trans ?_
  refine (op_iload_n (pc' := 845) rfl rfl rfl).trans ?_
  refine (op_iconst (pc' := 846) rfl rfl k32_2).trans ?_
  refine (op_iadd (pc' := 847) rfl rfl).trans ?_
  refine (op_iaload (pc' := 848) rfl rfl).trans (op_bind fun n847 => op_ite ?_)
  exact op_virtual (pc' := 851) (m := 0) rfl rfl rfl rfl rfl rfl rfl rfl
theorem B_0_851 {d : Nat} {h : am_H} {a0 : Option Nat} {a1 : Option Nat} {a2 : Option Nat} {a3 : Int32} {s0 : Int64} : Ev (d + 4) 0 851 [vr a0, vr a1, vr a2, vi a3] [vl s0] h = (a0).bind fun n856 => if (hkd h n856 = 100 ∨ hkd h n856 = 901) ∧ am_ix (a3 + 1) (hln h n856) then (a0).bind fun n861 => if (hkd h n861 = 100 ∨ hkd h n861 = 901) ∧ am_ix (a3 + 2) (hln h n861) then (a2).bind fun n862 => if hkd h n862 = 11 then (Cl (d + 3) 196 [vr a2, vi (hI h n856 (Int32.toNatClampNeg (a3 + 1))), vi (hI h n861 (Int32.toNatClampNeg (a3 + 2)))] h).bind fun x => Ev (d + 4) 0 865 [vr a0, vr a1, vr a2, vi a3] (x.1.toList ++ [vl s0]) x.2 else none else none else none := by
  refine (op_aload_n (pc' := 852) rfl rfl rfl).trans ?_
  refine (op_aload_n (pc' := 853) rfl rfl rfl).trans ?_
  refine (op_iload_n (pc' := 854) rfl rfl rfl).trans ?_
  refine (op_iconst (pc' := 855) rfl rfl k32_1).trans ?_
  refine (op_iadd (pc' := 856) rfl rfl).trans ?_
  refine (op_iaload (pc' := 857) rfl rfl).trans (op_bind fun n856 => op_ite ?_)
  refine (op_aload_n (pc' := 858) rfl rfl rfl).trans ?_
  refine (op_iload_n (pc' := 859) rfl rfl rfl).trans ?_
  refine (op_iconst (pc' := 860) rfl rfl k32_2).trans ?_
  refine (op_iadd (pc' := 861) rfl rfl).trans ?_
  refine (op_iaload (pc' := 862) rfl rfl).trans (op_bind fun n861 => op_ite ?_)
  exact op_virtual (pc' := 865) (m := 11) rfl rfl rfl rfl rfl rfl rfl rfl
theorem B_0_865 {d : Nat} {h : am_H} {a0 : Option Nat} {a1 : Option Nat} {a2 : Option Nat} {a3 : Int32} {s0 : Int64} {s1 : Int64} : Ev (d + 4) 0 865 [vr a0, vr a1, vr a2, vi a3] [vl s0, vl s1] h = if (lg_cmp s1 s0) = 0 then Ev (d + 4) 0 1421 [vr a0, vr a1, vr a2, vi a3] [] h else Ev (d + 4) 0 869 [vr a0, vr a1, vr a2, vi a3] [] h := by
  refine (op_lcmp (pc' := 866) rfl rfl).trans ?_
  exact op_ifeq (pc' := 869) rfl rfl
theorem B_0_869 {d : Nat} {h : am_H} {a0 : Option Nat} {a1 : Option Nat} {a2 : Option Nat} {a3 : Int32} : Ev (d + 4) 0 869 [vr a0, vr a1, vr a2, vi a3] [] h = if 0 = 0 ∨ 0 = 1 then some (some (vi 0), h) else none := by
  refine (op_iconst (pc' := 870) rfl rfl k32_0).trans ?_
  exact op_ireturnZ rfl rfl
theorem B_0_871 {d : Nat} {h : am_H} {a0 : Option Nat} {a1 : Option Nat} {a2 : Option Nat} {a3 : Int32} : Ev (d + 4) 0 871 [vr a0, vr a1, vr a2, vi a3] [] h = (a0).bind fun n876 => if (hkd h n876 = 100 ∨ hkd h n876 = 901) ∧ am_ix (a3 + 1) (hln h n876) then (a0).bind fun n881 => if (hkd h n881 = 100 ∨ hkd h n881 = 901) ∧ am_ix (a3 + 2) (hln h n881) then (a0).bind fun n886 => if (hkd h n886 = 100 ∨ hkd h n886 = 901) ∧ am_ix (a3 + 3) (hln h n886) then (a0).bind fun n891 => if (hkd h n891 = 100 ∨ hkd h n891 = 901) ∧ am_ix (a3 + 4) (hln h n891) then (a1).bind fun n892 => if hkd h n892 = 0 then (Cl (d + 3) 103 [vr a1, vi (hI h n876 (Int32.toNatClampNeg (a3 + 1))), vi (hI h n881 (Int32.toNatClampNeg (a3 + 2))), vi (hI h n886 (Int32.toNatClampNeg (a3 + 3))), vi (hI h n891 (Int32.toNatClampNeg (a3 + 4)))] h).bind fun x => Ev (d + 4) 0 895 [vr a0, vr a1, vr a2, vi a3] (x.1.toList ++ []) x.2 else none else none else none else none else none := by
  refine (op_aload_n (pc' := 872) rfl rfl rfl).trans ?_
  refine (op_aload_n (pc' := 873) rfl rfl rfl).trans ?_
  refine (op_iload_n (pc' := 874) rfl rfl rfl).trans ?_
  refine (op_iconst (pc' := 875) rfl rfl k32_1).trans ?_
  refine (op_iadd (pc' := 876) rfl rfl).trans ?_
  refine (op_iaload (pc' := 877) rfl rfl).trans (op_bind fun n876 => op_ite ?_)
  refine (op_aload_n (pc' := 878) rfl rfl rfl).trans ?_
  refine (op_iload_n (pc' := 879) rfl rfl rfl).trans ?_
  refine (op_iconst (pc' := 880) rfl rfl k32_2).trans ?_
  refine (op_iadd (pc' := 881) rfl rfl).trans ?_
  refine (op_iaload (pc' := 882) rfl rfl).trans (op_bind fun n881 => op_ite ?_)
  refine (op_aload_n (pc' := 883) rfl rfl rfl).trans ?_
  refine (op_iload_n (pc' := 884) rfl rfl rfl).trans ?_
  refine (op_iconst (pc' := 885) rfl rfl k32_3).trans ?_
  refine (op_iadd (pc' := 886) rfl rfl).trans ?_
  refine (op_iaload (pc' := 887) rfl rfl).trans (op_bind fun n886 => op_ite ?_)
  refine (op_aload_n (pc' := 888) rfl rfl rfl).trans ?_
  refine (op_iload_n (pc' := 889) rfl rfl rfl).trans ?_
  refine (op_iconst (pc' := 890) rfl rfl k32_4).trans ?_
  refine (op_iadd (pc' := 891) rfl rfl).trans ?_
  refine (op_iaload (pc' := 892) rfl rfl).trans (op_bind fun n891 => op_ite ?_)
  exact op_virtual (pc' := 895) (m := 0) rfl rfl rfl rfl rfl rfl rfl rfl
theorem B_0_895 {d : Nat} {h : am_H} {a0 : Option Nat} {a1 : Option Nat} {a2 : Option Nat} {a3 : Int32} {s0 : Int64} : Ev (d + 4) 0 895 [vr a0, vr a1, vr a2, vi a3] [vl s0] h = (a0).bind fun n900 => if (hkd h n900 = 100 ∨ hkd h n900 = 901) ∧ am_ix (a3 + 1) (hln h n900) then (a0).bind fun n905 => if (hkd h n905 = 100 ∨ hkd h n905 = 901) ∧ am_ix (a3 + 2) (hln h n905) then (a0).bind fun n910 => if (hkd h n910 = 100 ∨ hkd h n910 = 901) ∧ am_ix (a3 + 3) (hln h n910) then (a0).bind fun n915 => if (hkd h n915 = 100 ∨ hkd h n915 = 901) ∧ am_ix (a3 + 4) (hln h n915) then (a2).bind fun n916 => if hkd h n916 = 11 then (Cl (d + 3) 197 [vr a2, vi (hI h n900 (Int32.toNatClampNeg (a3 + 1))), vi (hI h n905 (Int32.toNatClampNeg (a3 + 2))), vi (hI h n910 (Int32.toNatClampNeg (a3 + 3))), vi (hI h n915 (Int32.toNatClampNeg (a3 + 4)))] h).bind fun x => Ev (d + 4) 0 919 [vr a0, vr a1, vr a2, vi a3] (x.1.toList ++ [vl s0]) x.2 else none else none else none else none else none := by
  refine (op_aload_n (pc' := 896) rfl rfl rfl).trans ?_
  refine (op_aload_n (pc' := 897) rfl rfl rfl).trans ?_
  refine (op_iload_n (pc' := 898) rfl rfl rfl).trans ?_
  refine (op_iconst (pc' := 899) rfl rfl k32_1).trans ?_
  refine (op_iadd (pc' := 900) rfl rfl).trans ?_
  refine (op_iaload (pc' := 901) rfl rfl).trans (op_bind fun n900 => op_ite ?_)
  refine (op_aload_n (pc' := 902) rfl rfl rfl).trans ?_
  refine (op_iload_n (pc' := 903) rfl rfl rfl).trans ?_
  refine (op_iconst (pc' := 904) rfl rfl k32_2).trans ?_
  refine (op_iadd (pc' := 905) rfl rfl).trans ?_
  refine (op_iaload (pc' := 906) rfl rfl).trans (op_bind fun n905 => op_ite ?_)
  refine (op_aload_n (pc' := 907) rfl rfl rfl).trans ?_
  refine (op_iload_n (pc' := 908) rfl rfl rfl).trans ?_
  refine (op_iconst (pc' := 909) rfl rfl k32_3).trans ?_
  refine (op_iadd (pc' := 910) rfl rfl).trans ?_
  refine (op_iaload (pc' := 911) rfl rfl).trans (op_bind fun n910 => op_ite ?_)
  refine (op_aload_n (pc' := 912) rfl rfl rfl).trans ?_
  refine (op_iload_n (pc' := 913) rfl rfl rfl).trans ?_
  refine (op_iconst (pc' := 914) rfl rfl k32_4).trans ?_
  refine (op_iadd (pc' := 915) rfl rfl).trans ?_
  refine (op_iaload (pc' := 916) rfl rfl).trans (op_bind fun n915 => op_ite ?_)
  exact op_virtual (pc' := 919) (m := 11) rfl rfl rfl rfl rfl rfl rfl rfl
theorem B_0_919 {d : Nat} {h : am_H} {a0 : Option Nat} {a1 : Option Nat} {a2 : Option Nat} {a3 : Int32} {s0 : Int64} {s1 : Int64} : Ev (d + 4) 0 919 [vr a0, vr a1, vr a2, vi a3] [vl s0, vl s1] h = if (lg_cmp s1 s0) = 0 then Ev (d + 4) 0 1421 [vr a0, vr a1, vr a2, vi a3] [] h else Ev (d + 4) 0 923 [vr a0, vr a1, vr a2, vi a3] [] h := by
  refine (op_lcmp (pc' := 920) rfl rfl).trans ?_
  exact op_ifeq (pc' := 923) rfl rfl
theorem B_0_923 {d : Nat} {h : am_H} {a0 : Option Nat} {a1 : Option Nat} {a2 : Option Nat} {a3 : Int32} : Ev (d + 4) 0 923 [vr a0, vr a1, vr a2, vi a3] [] h = if 0 = 0 ∨ 0 = 1 then some (some (vi 0), h) else none := by
  refine (op_iconst (pc' := 924) rfl rfl k32_0).trans ?_
  exact op_ireturnZ rfl rfl
theorem B_0_925 {d : Nat} {h : am_H} {a0 : Option Nat} {a1 : Option Nat} {a2 : Option Nat} {a3 : Int32} : Ev (d + 4) 0 925 [vr a0, vr a1, vr a2, vi a3] [] h = (a0).bind fun n930 => if (hkd h n930 = 100 ∨ hkd h n930 = 901) ∧ am_ix (a3 + 1) (hln h n930) then (a0).bind fun n935 => if (hkd h n935 = 100 ∨ hkd h n935 = 901) ∧ am_ix (a3 + 2) (hln h n935) then (a1).bind fun n936 => if hkd h n936 = 0 then (Cl (d + 3) 106 [vr a1, vi (hI h n930 (Int32.toNatClampNeg (a3 + 1))), vi (hI h n935 (Int32.toNatClampNeg (a3 + 2)))] h).bind fun x => Ev (d + 4) 0 939 [vr a0, vr a1, vr a2, vi a3] (x.1.toList ++ []) x.2 else none else none else none := by
  refine (op_aload_n (pc' := 926) rfl rfl rfl).trans ?_
  refine (op_aload_n (pc' := 927) rfl rfl rfl).trans ?_
  refine (op_iload_n (pc' := 928) rfl rfl rfl).trans ?_
  refine (op_iconst (pc' := 929) rfl rfl k32_1).trans ?_
  refine (op_iadd (pc' := 930) rfl rfl).trans ?_
  refine (op_iaload (pc' := 931) rfl rfl).trans (op_bind fun n930 => op_ite ?_)
  refine (op_aload_n (pc' := 932) rfl rfl rfl).trans ?_
  refine (op_iload_n (pc' := 933) rfl rfl rfl).trans ?_
  refine (op_iconst (pc' := 934) rfl rfl k32_2).trans ?_
  refine (op_iadd (pc' := 935) rfl rfl).trans ?_
  refine (op_iaload (pc' := 936) rfl rfl).trans (op_bind fun n935 => op_ite ?_)
  exact op_virtual (pc' := 939) (m := 0) rfl rfl rfl rfl rfl rfl rfl rfl
theorem B_0_939 {d : Nat} {h : am_H} {a0 : Option Nat} {a1 : Option Nat} {a2 : Option Nat} {a3 : Int32} {s0 : Int64} : Ev (d + 4) 0 939 [vr a0, vr a1, vr a2, vi a3] [vl s0] h = (a0).bind fun n944 => if (hkd h n944 = 100 ∨ hkd h n944 = 901) ∧ am_ix (a3 + 1) (hln h n944) then (a0).bind fun n949 => if (hkd h n949 = 100 ∨ hkd h n949 = 901) ∧ am_ix (a3 + 2) (hln h n949) then (a2).bind fun n950 => if hkd h n950 = 11 then (Cl (d + 3) 200 [vr a2, vi (hI h n944 (Int32.toNatClampNeg (a3 + 1))), vi (hI h n949 (Int32.toNatClampNeg (a3 + 2)))] h).bind fun x => Ev (d + 4) 0 953 [vr a0, vr a1, vr a2, vi a3] (x.1.toList ++ [vl s0]) x.2 else none else none else none := by
  refine (op_aload_n (pc' := 940) rfl rfl rfl).trans ?_
  refine (op_aload_n (pc' := 941) rfl rfl rfl).trans ?_
  refine (op_iload_n (pc' := 942) rfl rfl rfl).trans ?_
  refine (op_iconst (pc' := 943) rfl rfl k32_1).trans ?_
  refine (op_iadd (pc' := 944) rfl rfl).trans ?_
  refine (op_iaload (pc' := 945) rfl rfl).trans (op_bind fun n944 => op_ite ?_)
  refine (op_aload_n (pc' := 946) rfl rfl rfl).trans ?_
  refine (op_iload_n (pc' := 947) rfl rfl rfl).trans ?_
  refine (op_iconst (pc' := 948) rfl rfl k32_2).trans ?_
  refine (op_iadd (pc' := 949) rfl rfl).trans ?_
  refine (op_iaload (pc' := 950) rfl rfl).trans (op_bind fun n949 => op_ite ?_)
  exact op_virtual (pc' := 953) (m := 11) rfl rfl rfl rfl rfl rfl rfl rfl
theorem B_0_953 {d : Nat} {h : am_H} {a0 : Option Nat} {a1 : Option Nat} {a2 : Option Nat} {a3 : Int32} {s0 : Int64} {s1 : Int64} : Ev (d + 4) 0 953 [vr a0, vr a1, vr a2, vi a3] [vl s0, vl s1] h = if (lg_cmp s1 s0) = 0 then Ev (d + 4) 0 1421 [vr a0, vr a1, vr a2, vi a3] [] h else Ev (d + 4) 0 957 [vr a0, vr a1, vr a2, vi a3] [] h := by
  refine (op_lcmp (pc' := 954) rfl rfl).trans ?_
  exact op_ifeq (pc' := 957) rfl rfl
theorem B_0_957 {d : Nat} {h : am_H} {a0 : Option Nat} {a1 : Option Nat} {a2 : Option Nat} {a3 : Int32} : Ev (d + 4) 0 957 [vr a0, vr a1, vr a2, vi a3] [] h = if 0 = 0 ∨ 0 = 1 then some (some (vi 0), h) else none := by
  refine (op_iconst (pc' := 958) rfl rfl k32_0).trans ?_
  exact op_ireturnZ rfl rfl
theorem B_0_959 {d : Nat} {h : am_H} {a0 : Option Nat} {a1 : Option Nat} {a2 : Option Nat} {a3 : Int32} : Ev (d + 4) 0 959 [vr a0, vr a1, vr a2, vi a3] [] h = (a0).bind fun n964 => if (hkd h n964 = 100 ∨ hkd h n964 = 901) ∧ am_ix (a3 + 1) (hln h n964) then (a1).bind fun n965 => if hkd h n965 = 0 then (Cl (d + 3) 110 [vr a1, vi (hI h n964 (Int32.toNatClampNeg (a3 + 1)))] h).bind fun x => Ev (d + 4) 0 968 [vr a0, vr a1, vr a2, vi a3] (x.1.toList ++ []) x.2 else none else none := by
  refine (op_aload_n (pc' := 960) rfl rfl rfl).trans ?_
  refine (op_aload_n (pc' := 961) rfl rfl rfl).trans ?_
  refine (op_iload_n (pc' := 962) rfl rfl rfl).trans ?_
  refine (op_iconst (pc' := 963) rfl rfl k32_1).trans ?_
  refine (op_iadd (pc' := 964) rfl rfl).trans ?_
  refine (op_iaload (pc' := 965) rfl rfl).trans (op_bind fun n964 => op_ite ?_)
  exact op_virtual (pc' := 968) (m := 0) rfl rfl rfl rfl rfl rfl rfl rfl
theorem B_0_968 {d : Nat} {h : am_H} {a0 : Option Nat} {a1 : Option Nat} {a2 : Option Nat} {a3 : Int32} {s0 : Int32} : Ev (d + 4) 0 968 [vr a0, vr a1, vr a2, vi a3] [vi s0] h = (a0).bind fun n973 => if (hkd h n973 = 100 ∨ hkd h n973 = 901) ∧ am_ix (a3 + 1) (hln h n973) then (a2).bind fun n974 => if hkd h n974 = 11 then (Cl (d + 3) 202 [vr a2, vi (hI h n973 (Int32.toNatClampNeg (a3 + 1)))] h).bind fun x => Ev (d + 4) 0 977 [vr a0, vr a1, vr a2, vi a3] (x.1.toList ++ [vi s0]) x.2 else none else none := by
  refine (op_aload_n (pc' := 969) rfl rfl rfl).trans ?_
  refine (op_aload_n (pc' := 970) rfl rfl rfl).trans ?_
  refine (op_iload_n (pc' := 971) rfl rfl rfl).trans ?_
  refine (op_iconst (pc' := 972) rfl rfl k32_1).trans ?_
  refine (op_iadd (pc' := 973) rfl rfl).trans ?_
  refine (op_iaload (pc' := 974) rfl rfl).trans (op_bind fun n973 => op_ite ?_)
  exact op_virtual (pc' := 977) (m := 11) rfl rfl rfl rfl rfl rfl rfl rfl
theorem B_0_977 {d : Nat} {h : am_H} {a0 : Option Nat} {a1 : Option Nat} {a2 : Option Nat} {a3 : Int32} {s0 : Int32} {s1 : Int32} : Ev (d + 4) 0 977 [vr a0, vr a1, vr a2, vi a3] [vi s0, vi s1] h = if s1 = s0 then Ev (d + 4) 0 1421 [vr a0, vr a1, vr a2, vi a3] [] h else Ev (d + 4) 0 980 [vr a0, vr a1, vr a2, vi a3] [] h := by
  exact op_icmpeq (pc' := 980) rfl rfl
theorem B_0_980 {d : Nat} {h : am_H} {a0 : Option Nat} {a1 : Option Nat} {a2 : Option Nat} {a3 : Int32} : Ev (d + 4) 0 980 [vr a0, vr a1, vr a2, vi a3] [] h = if 0 = 0 ∨ 0 = 1 then some (some (vi 0), h) else none := by
  refine (op_iconst (pc' := 981) rfl rfl k32_0).trans ?_
  exact op_ireturnZ rfl rfl
theorem B_0_982 {d : Nat} {h : am_H} {a0 : Option Nat} {a1 : Option Nat} {a2 : Option Nat} {a3 : Int32} : Ev (d + 4) 0 982 [vr a0, vr a1, vr a2, vi a3] [] h = (a0).bind fun n987 => if (hkd h n987 = 100 ∨ hkd h n987 = 901) ∧ am_ix (a3 + 1) (hln h n987) then (a0).bind fun n992 => if (hkd h n992 = 100 ∨ hkd h n992 = 901) ∧ am_ix (a3 + 2) (hln h n992) then (a0).bind fun n997 => if (hkd h n997 = 100 ∨ hkd h n997 = 901) ∧ am_ix (a3 + 3) (hln h n997) then (a1).bind fun n998 => if hkd h n998 = 0 then (Cl (d + 3) 111 [vr a1, vi (hI h n987 (Int32.toNatClampNeg (a3 + 1))), vi (hI h n992 (Int32.toNatClampNeg (a3 + 2))), vi (hI h n997 (Int32.toNatClampNeg (a3 + 3)))] h).bind fun x => Ev (d + 4) 0 1001 [vr a0, vr a1, vr a2, vi a3] (x.1.toList ++ []) x.2 else none else none else none else none := by
  refine (op_aload_n (pc' := 983) rfl rfl rfl).trans ?_
  refine (op_aload_n (pc' := 984) rfl rfl rfl).trans ?_
  refine (op_iload_n (pc' := 985) rfl rfl rfl).trans ?_
  refine (op_iconst (pc' := 986) rfl rfl k32_1).trans ?_
  refine (op_iadd (pc' := 987) rfl rfl).trans ?_
  refine (op_iaload (pc' := 988) rfl rfl).trans (op_bind fun n987 => op_ite ?_)
  refine (op_aload_n (pc' := 989) rfl rfl rfl).trans ?_
  refine (op_iload_n (pc' := 990) rfl rfl rfl).trans ?_
  refine (op_iconst (pc' := 991) rfl rfl k32_2).trans ?_
  refine (op_iadd (pc' := 992) rfl rfl).trans ?_
  refine (op_iaload (pc' := 993) rfl rfl).trans (op_bind fun n992 => op_ite ?_)
  refine (op_aload_n (pc' := 994) rfl rfl rfl).trans ?_
  refine (op_iload_n (pc' := 995) rfl rfl rfl).trans ?_
  refine (op_iconst (pc' := 996) rfl rfl k32_3).trans ?_
  refine (op_iadd (pc' := 997) rfl rfl).trans ?_
  refine (op_iaload (pc' := 998) rfl rfl).trans (op_bind fun n997 => op_ite ?_)
  exact op_virtual (pc' := 1001) (m := 0) rfl rfl rfl rfl rfl rfl rfl rfl
theorem B_0_1001 {d : Nat} {h : am_H} {a0 : Option Nat} {a1 : Option Nat} {a2 : Option Nat} {a3 : Int32} {s0 : Int32} : Ev (d + 4) 0 1001 [vr a0, vr a1, vr a2, vi a3] [vi s0] h = (a0).bind fun n1006 => if (hkd h n1006 = 100 ∨ hkd h n1006 = 901) ∧ am_ix (a3 + 1) (hln h n1006) then (a0).bind fun n1011 => if (hkd h n1011 = 100 ∨ hkd h n1011 = 901) ∧ am_ix (a3 + 2) (hln h n1011) then (a0).bind fun n1016 => if (hkd h n1016 = 100 ∨ hkd h n1016 = 901) ∧ am_ix (a3 + 3) (hln h n1016) then (a2).bind fun n1017 => if hkd h n1017 = 11 then (Cl (d + 3) 203 [vr a2, vi (hI h n1006 (Int32.toNatClampNeg (a3 + 1))), vi (hI h n1011 (Int32.toNatClampNeg (a3 + 2))), vi (hI h n1016 (Int32.toNatClampNeg (a3 + 3)))] h).bind fun x => Ev (d + 4) 0 1020 [vr a0, vr a1, vr a2, vi a3] (x.1.toList ++ [vi s0]) x.2 else none else none else none else none := by
  refine (op_aload_n (pc' := 1002) rfl rfl rfl).trans ?_
  refine (op_aload_n (pc' := 1003) rfl rfl rfl).trans ?_
  refine (op_iload_n (pc' := 1004) rfl rfl rfl).trans ?_
  refine (op_iconst (pc' := 1005) rfl rfl k32_1).trans ?_
  refine (op_iadd (pc' := 1006) rfl rfl).trans ?_
  refine (op_iaload (pc' := 1007) rfl rfl).trans (op_bind fun n1006 => op_ite ?_)
  refine (op_aload_n (pc' := 1008) rfl rfl rfl).trans ?_
  refine (op_iload_n (pc' := 1009) rfl rfl rfl).trans ?_
  refine (op_iconst (pc' := 1010) rfl rfl k32_2).trans ?_
  refine (op_iadd (pc' := 1011) rfl rfl).trans ?_
  refine (op_iaload (pc' := 1012) rfl rfl).trans (op_bind fun n1011 => op_ite ?_)
  refine (op_aload_n (pc' := 1013) rfl rfl rfl).trans ?_
  refine (op_iload_n (pc' := 1014) rfl rfl rfl).trans ?_
  refine (op_iconst (pc' := 1015) rfl rfl k32_3).trans ?_
  refine (op_iadd (pc' := 1016) rfl rfl).trans ?_
  refine (op_iaload (pc' := 1017) rfl rfl).trans (op_bind fun n1016 => op_ite ?_)
  exact op_virtual (pc' := 1020) (m := 11) rfl rfl rfl rfl rfl rfl rfl rfl
theorem B_0_1020 {d : Nat} {h : am_H} {a0 : Option Nat} {a1 : Option Nat} {a2 : Option Nat} {a3 : Int32} {s0 : Int32} {s1 : Int32} : Ev (d + 4) 0 1020 [vr a0, vr a1, vr a2, vi a3] [vi s0, vi s1] h = if s1 = s0 then Ev (d + 4) 0 1421 [vr a0, vr a1, vr a2, vi a3] [] h else Ev (d + 4) 0 1023 [vr a0, vr a1, vr a2, vi a3] [] h := by
  exact op_icmpeq (pc' := 1023) rfl rfl
theorem B_0_1023 {d : Nat} {h : am_H} {a0 : Option Nat} {a1 : Option Nat} {a2 : Option Nat} {a3 : Int32} : Ev (d + 4) 0 1023 [vr a0, vr a1, vr a2, vi a3] [] h = if 0 = 0 ∨ 0 = 1 then some (some (vi 0), h) else none := by
  refine (op_iconst (pc' := 1024) rfl rfl k32_0).trans ?_
  exact op_ireturnZ rfl rfl
theorem B_0_1025 {d : Nat} {h : am_H} {a0 : Option Nat} {a1 : Option Nat} {a2 : Option Nat} {a3 : Int32} : Ev (d + 4) 0 1025 [vr a0, vr a1, vr a2, vi a3] [] h = (a0).bind fun n1030 => if (hkd h n1030 = 100 ∨ hkd h n1030 = 901) ∧ am_ix (a3 + 1) (hln h n1030) then (a1).bind fun n1031 => if hkd h n1031 = 0 then (Cl (d + 3) 112 [vr a1, vi (hI h n1030 (Int32.toNatClampNeg (a3 + 1)))] h).bind fun x => Ev (d + 4) 0 1034 [vr a0, vr a1, vr a2, vi a3] (x.1.toList ++ []) x.2 else none else none := by
  refine (op_aload_n (pc' := 1026) rfl rfl rfl).trans ?_
  refine (op_aload_n (pc' := 1027) rfl rfl rfl).trans ?_
  refine (op_iload_n (pc' := 1028) rfl rfl rfl).trans ?_
  refine (op_iconst (pc' := 1029) rfl rfl k32_1).trans ?_
  refine (op_iadd (pc' := 1030) rfl rfl).trans ?_
  refine (op_iaload (pc' := 1031) rfl rfl).trans (op_bind fun n1030 => op_ite ?_)
  exact op_virtual (pc' := 1034) (m := 0) rfl rfl rfl rfl rfl rfl rfl rfl
theorem B_0_1034 {d : Nat} {h : am_H} {a0 : Option Nat} {a1 : Option Nat} {a2 : Option Nat} {a3 : Int32} {s0 : Int32} : Ev (d + 4) 0 1034 [vr a0, vr a1, vr a2, vi a3] [vi s0] h = (a0).bind fun n1039 => if (hkd h n1039 = 100 ∨ hkd h n1039 = 901) ∧ am_ix (a3 + 1) (hln h n1039) then (a2).bind fun n1040 => if hkd h n1040 = 11 then (Cl (d + 3) 204 [vr a2, vi (hI h n1039 (Int32.toNatClampNeg (a3 + 1)))] h).bind fun x => Ev (d + 4) 0 1043 [vr a0, vr a1, vr a2, vi a3] (x.1.toList ++ [vi s0]) x.2 else none else none := by
  refine (op_aload_n (pc' := 1035) rfl rfl rfl).trans ?_
  refine (op_aload_n (pc' := 1036) rfl rfl rfl).trans ?_
  refine (op_iload_n (pc' := 1037) rfl rfl rfl).trans ?_
  refine (op_iconst (pc' := 1038) rfl rfl k32_1).trans ?_
  refine (op_iadd (pc' := 1039) rfl rfl).trans ?_
  refine (op_iaload (pc' := 1040) rfl rfl).trans (op_bind fun n1039 => op_ite ?_)
  exact op_virtual (pc' := 1043) (m := 11) rfl rfl rfl rfl rfl rfl rfl rfl
theorem B_0_1043 {d : Nat} {h : am_H} {a0 : Option Nat} {a1 : Option Nat} {a2 : Option Nat} {a3 : Int32} {s0 : Int32} {s1 : Int32} : Ev (d + 4) 0 1043 [vr a0, vr a1, vr a2, vi a3] [vi s0, vi s1] h = if s1 = s0 then Ev (d + 4) 0 1421 [vr a0, vr a1, vr a2, vi a3] [] h else Ev (d + 4) 0 1046 [vr a0, vr a1, vr a2, vi a3] [] h := by
  exact op_icmpeq (pc' := 1046) rfl rfl
theorem B_0_1046 {d : Nat} {h : am_H} {a0 : Option Nat} {a1 : Option Nat} {a2 : Option Nat} {a3 : Int32} : Ev (d + 4) 0 1046 [vr a0, vr a1, vr a2, vi a3] [] h = if 0 = 0 ∨ 0 = 1 then some (some (vi 0), h) else none := by
  refine (op_iconst (pc' := 1047) rfl rfl k32_0).trans ?_
  exact op_ireturnZ rfl rfl
theorem B_0_1048 {d : Nat} {h : am_H} {a0 : Option Nat} {a1 : Option Nat} {a2 : Option Nat} {a3 : Int32} : Ev (d + 4) 0 1048 [vr a0, vr a1, vr a2, vi a3] [] h = (a0).bind fun n1053 => if (hkd h n1053 = 100 ∨ hkd h n1053 = 901) ∧ am_ix (a3 + 1) (hln h n1053) then (a0).bind fun n1058 => if (hkd h n1058 = 100 ∨ hkd h n1058 = 901) ∧ am_ix (a3 + 2) (hln h n1058) then (a0).bind fun n1063 => if (hkd h n1063 = 100 ∨ hkd h n1063 = 901) ∧ am_ix (a3 + 3) (hln h n1063) then (a1).bind fun n1064 => if hkd h n1064 = 0 then (Cl (d + 3) 113 [vr a1, vi (hI h n1053 (Int32.toNatClampNeg (a3 + 1))), vi (hI h n1058 (Int32.toNatClampNeg (a3 + 2))), vi (hI h n1063 (Int32.toNatClampNeg (a3 + 3)))] h).bind fun x => Ev (d + 4) 0 1067 [vr a0, vr a1, vr a2, vi a3] (x.1.toList ++ []) x.2 else none else none else none else none := by
  refine (op_aload_n (pc' := 1049) rfl rfl rfl).trans ?_
  refine (op_aload_n (pc' := 1050) rfl rfl rfl).trans ?_
  refine (op_iload_n (pc' := 1051) rfl rfl rfl).trans ?_
  refine (op_iconst (pc' := 1052) rfl rfl k32_1).trans ?_
  refine (op_iadd (pc' := 1053) rfl rfl).trans ?_
  refine (op_iaload (pc' := 1054) rfl rfl).trans (op_bind fun n1053 => op_ite ?_)
  refine (op_aload_n (pc' := 1055) rfl rfl rfl).trans ?_
  refine (op_iload_n (pc' := 1056) rfl rfl rfl).trans ?_
  refine (op_iconst (pc' := 1057) rfl rfl k32_2).trans ?_
  refine (op_iadd (pc' := 1058) rfl rfl).trans ?_
  refine (op_iaload (pc' := 1059) rfl rfl).trans (op_bind fun n1058 => op_ite ?_)
  refine (op_aload_n (pc' := 1060) rfl rfl rfl).trans ?_
  refine (op_iload_n (pc' := 1061) rfl rfl rfl).trans ?_
  refine (op_iconst (pc' := 1062) rfl rfl k32_3).trans ?_
  refine (op_iadd (pc' := 1063) rfl rfl).trans ?_
  refine (op_iaload (pc' := 1064) rfl rfl).trans (op_bind fun n1063 => op_ite ?_)
  exact op_virtual (pc' := 1067) (m := 0) rfl rfl rfl rfl rfl rfl rfl rfl
theorem B_0_1067 {d : Nat} {h : am_H} {a0 : Option Nat} {a1 : Option Nat} {a2 : Option Nat} {a3 : Int32} {s0 : Int32} : Ev (d + 4) 0 1067 [vr a0, vr a1, vr a2, vi a3] [vi s0] h = (a0).bind fun n1072 => if (hkd h n1072 = 100 ∨ hkd h n1072 = 901) ∧ am_ix (a3 + 1) (hln h n1072) then (a0).bind fun n1077 => if (hkd h n1077 = 100 ∨ hkd h n1077 = 901) ∧ am_ix (a3 + 2) (hln h n1077) then (a0).bind fun n1082 => if (hkd h n1082 = 100 ∨ hkd h n1082 = 901) ∧ am_ix (a3 + 3) (hln h n1082) then (a2).bind fun n1083 => if hkd h n1083 = 11 then (Cl (d + 3) 205 [vr a2, vi (hI h n1072 (Int32.toNatClampNeg (a3 + 1))), vi (hI h n1077 (Int32.toNatClampNeg (a3 + 2))), vi (hI h n1082 (Int32.toNatClampNeg (a3 + 3)))] h).bind fun x => Ev (d + 4) 0 1086 [vr a0, vr a1, vr a2, vi a3] (x.1.toList ++ [vi s0]) x.2 else none else none else none else none := by
  refine (op_aload_n (pc' := 1068) rfl rfl rfl).trans ?_
  refine (op_aload_n (pc' := 1069) rfl rfl rfl).trans ?_
  refine (op_iload_n (pc' := 1070) rfl rfl rfl).trans ?_
  refine (op_iconst (pc' := 1071) rfl rfl k32_1).trans ?_
  refine (op_iadd (pc' := 1072) rfl rfl).trans ?_
  refine (op_iaload (pc' := 1073) rfl rfl).trans (op_bind fun n1072 => op_ite ?_)
  refine (op_aload_n (pc' := 1074) rfl rfl rfl).trans ?_
  refine (op_iload_n (pc' := 1075) rfl rfl rfl).trans ?_
  refine (op_iconst (pc' := 1076) rfl rfl k32_2).trans ?_
  refine (op_iadd (pc' := 1077) rfl rfl).trans ?_
  refine (op_iaload (pc' := 1078) rfl rfl).trans (op_bind fun n1077 => op_ite ?_)
  refine (op_aload_n (pc' := 1079) rfl rfl rfl).trans ?_
  refine (op_iload_n (pc' := 1080) rfl rfl rfl).trans ?_
  refine (op_iconst (pc' := 1081) rfl rfl k32_3).trans ?_
  refine (op_iadd (pc' := 1082) rfl rfl).trans ?_
  refine (op_iaload (pc' := 1083) rfl rfl).trans (op_bind fun n1082 => op_ite ?_)
  exact op_virtual (pc' := 1086) (m := 11) rfl rfl rfl rfl rfl rfl rfl rfl
theorem B_0_1086 {d : Nat} {h : am_H} {a0 : Option Nat} {a1 : Option Nat} {a2 : Option Nat} {a3 : Int32} {s0 : Int32} {s1 : Int32} : Ev (d + 4) 0 1086 [vr a0, vr a1, vr a2, vi a3] [vi s0, vi s1] h = if s1 = s0 then Ev (d + 4) 0 1421 [vr a0, vr a1, vr a2, vi a3] [] h else Ev (d + 4) 0 1089 [vr a0, vr a1, vr a2, vi a3] [] h := by
  exact op_icmpeq (pc' := 1089) rfl rfl
theorem B_0_1089 {d : Nat} {h : am_H} {a0 : Option Nat} {a1 : Option Nat} {a2 : Option Nat} {a3 : Int32} : Ev (d + 4) 0 1089 [vr a0, vr a1, vr a2, vi a3] [] h = if 0 = 0 ∨ 0 = 1 then some (some (vi 0), h) else none := by
  refine (op_iconst (pc' := 1090) rfl rfl k32_0).trans ?_
  exact op_ireturnZ rfl rfl
theorem B_0_1091 {d : Nat} {h : am_H} {a0 : Option Nat} {a1 : Option Nat} {a2 : Option Nat} {a3 : Int32} : Ev (d + 4) 0 1091 [vr a0, vr a1, vr a2, vi a3] [] h = (a1).bind fun n1092 => if hkd h n1092 = 0 then (Cl (d + 3) 119 [vr a1] h).bind fun x => Ev (d + 4) 0 1095 [vr a0, vr a1, vr a2, vi a3] (x.1.toList ++ []) x.2 else none := by
  refine (op_aload_n (pc' := 1092) rfl rfl rfl).trans ?_
  exact op_virtual (pc' := 1095) (m := 0) rfl rfl rfl rfl rfl rfl rfl rfl
theorem B_0_1095 {d : Nat} {h : am_H} {a0 : Option Nat} {a1 : Option Nat} {a2 : Option Nat} {a3 : Int32} {s0 : Int32} : Ev (d + 4) 0 1095 [vr a0, vr a1, vr a2, vi a3] [vi s0] h = (a2).bind fun n1096 => if hkd h n1096 = 11 then (Cl (d + 3) 207 [vr a2] h).bind fun x => Ev (d + 4) 0 1099 [vr a0, vr a1, vr a2, vi a3] (x.1.toList ++ [vi s0]) x.2 else none := by
  refine (op_aload_n (pc' := 1096) rfl rfl rfl).trans ?_
  exact op_virtual (pc' := 1099) (m := 11) rfl rfl rfl rfl rfl rfl rfl rfl
theorem B_0_1099 {d : Nat} {h : am_H} {a0 : Option Nat} {a1 : Option Nat} {a2 : Option Nat} {a3 : Int32} {s0 : Int32} {s1 : Int32} : Ev (d + 4) 0 1099 [vr a0, vr a1, vr a2, vi a3] [vi s0, vi s1] h = if s1 = s0 then Ev (d + 4) 0 1421 [vr a0, vr a1, vr a2, vi a3] [] h else Ev (d + 4) 0 1102 [vr a0, vr a1, vr a2, vi a3] [] h := by
  exact op_icmpeq (pc' := 1102) rfl rfl
theorem B_0_1102 {d : Nat} {h : am_H} {a0 : Option Nat} {a1 : Option Nat} {a2 : Option Nat} {a3 : Int32} : Ev (d + 4) 0 1102 [vr a0, vr a1, vr a2, vi a3] [] h = if 0 = 0 ∨ 0 = 1 then some (some (vi 0), h) else none := by
  refine (op_iconst (pc' := 1103) rfl rfl k32_0).trans ?_
  exact op_ireturnZ rfl rfl
theorem B_0_1104 {d : Nat} {h : am_H} {a0 : Option Nat} {a1 : Option Nat} {a2 : Option Nat} {a3 : Int32} : Ev (d + 4) 0 1104 [vr a0, vr a1, vr a2, vi a3] [] h = (a0).bind fun n1109 => if (hkd h n1109 = 100 ∨ hkd h n1109 = 901) ∧ am_ix (a3 + 1) (hln h n1109) then (a0).bind fun n1114 => if (hkd h n1114 = 100 ∨ hkd h n1114 = 901) ∧ am_ix (a3 + 2) (hln h n1114) then (a1).bind fun n1115 => if hkd h n1115 = 0 then (Cl (d + 3) 120 [vr a1, vi (hI h n1109 (Int32.toNatClampNeg (a3 + 1))), vi (hI h n1114 (Int32.toNatClampNeg (a3 + 2)))] h).bind fun x => Ev (d + 4) 0 1118 [vr a0, vr a1, vr a2, vi a3] (x.1.toList ++ []) x.2 else none else none else none := by
  refine (op_aload_n (pc' := 1105) rfl rfl rfl).trans ?_
  refine (op_aload_n (pc' := 1106) rfl rfl rfl).trans ?_
  refine (op_iload_n (pc' := 1107) rfl rfl rfl).trans ?_
  refine (op_iconst (pc' := 1108) rfl rfl k32_1).trans ?_
  refine (op_iadd (pc' := 1109) rfl rfl).trans ?_
  refine (op_iaload (pc' := 1110) rfl rfl).trans (op_bind fun n1109 => op_ite ?_)
  refine (op_aload_n (pc' := 1111) rfl rfl rfl).trans ?_
  refine (op_iload_n (pc' := 1112) rfl rfl rfl).trans ?_
  refine (op_iconst (pc' := 1113) rfl rfl k32_2).trans ?_
  refine (op_iadd (pc' := 1114) rfl rfl).trans ?_
  refine (op_iaload (pc' := 1115) rfl rfl).trans (op_bind fun n1114 => op_ite ?_)
  exact op_virtual (pc' := 1118) (m := 0) rfl rfl rfl rfl rfl rfl rfl rfl
theorem B_0_1118 {d : Nat} {h : am_H} {a0 : Option Nat} {a1 : Option Nat} {a2 : Option Nat} {a3 : Int32} {s0 : Int32} : Ev (d + 4) 0 1118 [vr a0, vr a1, vr a2, vi a3] [vi s0] h = (a0).bind fun n1123 => if (hkd h n1123 = 100 ∨ hkd h n1123 = 901) ∧ am_ix (a3 + 1) (hln h n1123) then (a0).bind fun n1128 => if (hkd h n1128 = 100 ∨ hkd h n1128 = 901) ∧ am_ix (a3 + 2) (hln h n1128) then (a2).bind fun n1129 => if hkd h n1129 = 11 then (Cl (d + 3) 208 [vr a2, vi (hI h n1123 (Int32.toNatClampNeg (a3 + 1))), vi (hI h n1128 (Int32.toNatClampNeg (a3 + 2)))] h).bind fun x => Ev (d + 4) 0 1132 [vr a0, vr a1, vr a2, vi a3] (x.1.toList ++ [vi s0]) x.2 else none else none else none := by
  refine (op_aload_n (pc' := 1119) rfl rfl rfl).trans ?_
  refine (op_aload_n (pc' := 1120) rfl rfl rfl).trans ?_
  refine (op_iload_n (pc' := 1121) rfl rfl rfl).trans ?_
  refine (op_iconst (pc' := 1122) rfl rfl k32_1).trans ?_
  refine (op_iadd (pc' := 1123) rfl rfl).trans ?_
  refine (op_iaload (pc' := 1124) rfl rfl).trans (op_bind fun n1123 => op_ite ?_)
  refine (op_aload_n (pc' := 1125) rfl rfl rfl).trans ?_
  refine (op_iload_n (pc' := 1126) rfl rfl rfl).trans ?_
  refine (op_iconst (pc' := 1127) rfl rfl k32_2).trans ?_
  refine (op_iadd (pc' := 1128) rfl rfl).trans ?_
  refine (op_iaload (pc' := 1129) rfl rfl).trans (op_bind fun n1128 => op_ite ?_)
  exact op_virtual (pc' := 1132) (m := 11) rfl rfl rfl rfl rfl rfl rfl rfl
theorem B_0_1132 {d : Nat} {h : am_H} {a0 : Option Nat} {a1 : Option Nat} {a2 : Option Nat} {a3 : Int32} {s0 : Int32} {s1 : Int32} : Ev (d + 4) 0 1132 [vr a0, vr a1, vr a2, vi a3] [vi s0, vi s1] h = if s1 = s0 then Ev (d + 4) 0 1421 [vr a0, vr a1, vr a2, vi a3] [] h else Ev (d + 4) 0 1135 [vr a0, vr a1, vr a2, vi a3] [] h := by
  exact op_icmpeq (pc' := 1135) rfl rfl
theorem B_0_1135 {d : Nat} {h : am_H} {a0 : Option Nat} {a1 : Option Nat} {a2 : Option Nat} {a3 : Int32} : Ev (d + 4) 0 1135 [vr a0, vr a1, vr a2, vi a3] [] h = if 0 = 0 ∨ 0 = 1 then some (some (vi 0), h) else none := by
  refine (op_iconst (pc' := 1136) rfl rfl k32_0).trans ?_
  exact op_ireturnZ rfl rfl
theorem B_0_1137 {d : Nat} {h : am_H} {a0 : Option Nat} {a1 : Option Nat} {a2 : Option Nat} {a3 : Int32} : Ev (d + 4) 0 1137 [vr a0, vr a1, vr a2, vi a3] [] h = (a0).bind fun n1142 => if (hkd h n1142 = 100 ∨ hkd h n1142 = 901) ∧ am_ix (a3 + 1) (hln h n1142) then (a1).bind fun n1143 => if hkd h n1143 = 0 then (Cl (d + 3) 121 [vr a1, vi (hI h n1142 (Int32.toNatClampNeg (a3 + 1)))] h).bind fun x => Ev (d + 4) 0 1146 [vr a0, vr a1, vr a2, vi a3] (x.1.toList ++ []) x.2 else none else none := by
  refine (op_aload_n (pc' := 1138) rfl rfl rfl).trans ?_
  refine (op_aload_n (pc' := 1139) rfl rfl rfl).trans ?_
  refine (op_iload_n (pc' := 1140) rfl rfl rfl).trans ?_
  refine (op_iconst (pc' := 1141) rfl rfl k32_1).trans ?_
  refine (op_iadd (pc' := 1142) rfl rfl).trans ?_
  refine (op_iaload (pc' := 1143) rfl rfl).trans (op_bind fun n1142 => op_ite ?_)
  exact op_virtual (pc' := 1146) (m := 0) rfl rfl rfl rfl rfl rfl rfl rfl
theorem B_0_1146 {d : Nat} {h : am_H} {a0 : Option Nat} {a1 : Option Nat} {a2 : Option Nat} {a3 : Int32} {s0 : Int32} : Ev (d + 4) 0 1146 [vr a0, vr a1, vr a2, vi a3] [vi s0] h = (a0).bind fun n1151 => if (hkd h n1151 = 100 ∨ hkd h n1151 = 901) ∧ am_ix (a3 + 1) (hln h n1151) then (a2).bind fun n1152 => if hkd h n1152 = 11 then (Cl (d + 3) 209 [vr a2, vi (hI h n1151 (Int32.toNatClampNeg (a3 + 1)))] h).bind fun x => Ev (d + 4) 0 1155 [vr a0, vr a1, vr a2, vi a3] (x.1.toList ++ [vi s0]) x.2 else none else none := by
  refine (op_aload_n (pc' := 1147) rfl rfl rfl).trans ?_
  refine (op_aload_n (pc' := 1148) rfl rfl rfl).trans ?_
  refine (op_iload_n (pc' := 1149) rfl rfl rfl).trans ?_
  refine (op_iconst (pc' := 1150) rfl rfl k32_1).trans ?_
  refine (op_iadd (pc' := 1151) rfl rfl).trans ?_
  refine (op_iaload (pc' := 1152) rfl rfl).trans (op_bind fun n1151 => op_ite ?_)
  exact op_virtual (pc' := 1155) (m := 11) rfl rfl rfl rfl rfl rfl rfl rfl
theorem B_0_1155 {d : Nat} {h : am_H} {a0 : Option Nat} {a1 : Option Nat} {a2 : Option Nat} {a3 : Int32} {s0 : Int32} {s1 : Int32} : Ev (d + 4) 0 1155 [vr a0, vr a1, vr a2, vi a3] [vi s0, vi s1] h = if s1 = s0 then Ev (d + 4) 0 1421 [vr a0, vr a1, vr a2, vi a3] [] h else Ev (d + 4) 0 1158 [vr a0, vr a1, vr a2, vi a3] [] h := by
  exact op_icmpeq (pc' := 1158) rfl rfl
theorem B_0_1158 {d : Nat} {h : am_H} {a0 : Option Nat} {a1 : Option Nat} {a2 : Option Nat} {a3 : Int32} : Ev (d + 4) 0 1158 [vr a0, vr a1, vr a2, vi a3] [] h = if 0 = 0 ∨ 0 = 1 then some (some (vi 0), h) else none := by
  refine (op_iconst (pc' := 1159) rfl rfl k32_0).trans ?_
  exact op_ireturnZ rfl rfl
theorem B_0_1160 {d : Nat} {h : am_H} {a0 : Option Nat} {a1 : Option Nat} {a2 : Option Nat} {a3 : Int32} : Ev (d + 4) 0 1160 [vr a0, vr a1, vr a2, vi a3] [] h = (a1).bind fun n1161 => if hkd h n1161 = 0 then (Cl (d + 3) 122 [vr a1] h).bind fun x => Ev (d + 4) 0 1164 [vr a0, vr a1, vr a2, vi a3] (x.1.toList ++ []) x.2 else none := by
  refine (op_aload_n (pc' := 1161) rfl rfl rfl).trans ?_
  exact op_virtual (pc' := 1164) (m := 0) rfl rfl rfl rfl rfl rfl rfl rfl
theorem B_0_1164 {d : Nat} {h : am_H} {a0 : Option Nat} {a1 : Option Nat} {a2 : Option Nat} {a3 : Int32} {s0 : Int32} : Ev (d + 4) 0 1164 [vr a0, vr a1, vr a2, vi a3] [vi s0] h = (a2).bind fun n1165 => if hkd h n1165 = 11 then (Cl (d + 3) 210 [vr a2] h).bind fun x => Ev (d + 4) 0 1168 [vr a0, vr a1, vr a2, vi a3] (x.1.toList ++ [vi s0]) x.2 else none := by
  refine (op_aload_n (pc' := 1165) rfl rfl rfl).trans ?_
  exact op_virtual (pc' := 1168) (m := 11) rfl rfl rfl rfl rfl rfl rfl rfl
theorem B_0_1168 {d : Nat} {h : am_H} {a0 : Option Nat} {a1 : Option Nat} {a2 : Option Nat} {a3 : Int32} {s0 : Int32} {s1 : Int32} : Ev (d + 4) 0 1168 [vr a0, vr a1, vr a2, vi a3] [vi s0, vi s1] h = if s1 = s0 then Ev (d + 4) 0 1421 [vr a0, vr a1, vr a2, vi a3] [] h else Ev (d + 4) 0 1171 [vr a0, vr a1, vr a2, vi a3] [] h := by
  exact op_icmpeq (pc' := 1171) rfl rfl
theorem B_0_1171 {d : Nat} {h : am_H} {a0 : Option Nat} {a1 : Option Nat} {a2 : Option Nat} {a3 : Int32} : Ev (d + 4) 0 1171 [vr a0, vr a1, vr a2, vi a3] [] h = if 0 = 0 ∨ 0 = 1 then some (some (vi 0), h) else none := by
  refine (op_iconst (pc' := 1172) rfl rfl k32_0).trans ?_
  exact op_ireturnZ rfl rfl
theorem B_0_1173 {d : Nat} {h : am_H} {a0 : Option Nat} {a1 : Option Nat} {a2 : Option Nat} {a3 : Int32} : Ev (d + 4) 0 1173 [vr a0, vr a1, vr a2, vi a3] [] h = (a1).bind fun n1174 => if hkd h n1174 = 0 then (Cl (d + 3) 128 [vr a1] h).bind fun x => Ev (d + 4) 0 1177 [vr a0, vr a1, vr a2, vi a3] (x.1.toList ++ []) x.2 else none := by
  refine (op_aload_n (pc' := 1174) rfl rfl rfl).trans ?_
  exact op_virtual (pc' := 1177) (m := 0) rfl rfl rfl rfl rfl rfl rfl rfl
theorem B_0_1177 {d : Nat} {h : am_H} {a0 : Option Nat} {a1 : Option Nat} {a2 : Option Nat} {a3 : Int32} {s0 : Int32} : Ev (d + 4) 0 1177 [vr a0, vr a1, vr a2, vi a3] [vi s0] h = (a2).bind fun n1178 => if hkd h n1178 = 11 then (Cl (d + 3) 211 [vr a2] h).bind fun x => Ev (d + 4) 0 1181 [vr a0, vr a1, vr a2, vi a3] (x.1.toList ++ [vi s0]) x.2 else none := by
  refine (op_aload_n (pc' := 1178) rfl rfl rfl).trans ?_
  exact op_virtual (pc' := 1181) (m := 11) rfl rfl rfl rfl rfl rfl rfl rfl
theorem B_0_1181 {d : Nat} {h : am_H} {a0 : Option Nat} {a1 : Option Nat} {a2 : Option Nat} {a3 : Int32} {s0 : Int32} {s1 : Int32} : Ev (d + 4) 0 1181 [vr a0, vr a1, vr a2, vi a3] [vi s0, vi s1] h = if s1 = s0 then Ev (d + 4) 0 1421 [vr a0, vr a1, vr a2, vi a3] [] h else Ev (d + 4) 0 1184 [vr a0, vr a1, vr a2, vi a3] [] h := by
  exact op_icmpeq (pc' := 1184) rfl rfl
theorem B_0_1184 {d : Nat} {h : am_H} {a0 : Option Nat} {a1 : Option Nat} {a2 : Option Nat} {a3 : Int32} : Ev (d + 4) 0 1184 [vr a0, vr a1, vr a2, vi a3] [] h = if 0 = 0 ∨ 0 = 1 then some (some (vi 0), h) else none := by
  refine (op_iconst (pc' := 1185) rfl rfl k32_0).trans ?_
  exact op_ireturnZ rfl rfl
theorem B_0_1186 {d : Nat} {h : am_H} {a0 : Option Nat} {a1 : Option Nat} {a2 : Option Nat} {a3 : Int32} : Ev (d + 4) 0 1186 [vr a0, vr a1, vr a2, vi a3] [] h = (a0).bind fun n1191 => if (hkd h n1191 = 100 ∨ hkd h n1191 = 901) ∧ am_ix (a3 + 1) (hln h n1191) then (a0).bind fun n1196 => if (hkd h n1196 = 100 ∨ hkd h n1196 = 901) ∧ am_ix (a3 + 2) (hln h n1196) then (a0).bind fun n1201 => if (hkd h n1201 = 100 ∨ hkd h n1201 = 901) ∧ am_ix (a3 + 3) (hln h n1201) then (a1).bind fun n1202 => if hkd h n1202 = 0 then (Cl (d + 3) 133 [vr a1, vi (hI h n1191 (Int32.toNatClampNeg (a3 + 1))), vi (hI h n1196 (Int32.toNatClampNeg (a3 + 2))), vi (hI h n1201 (Int32.toNatClampNeg (a3 + 3)))] h).bind fun x => Ev (d + 4) 0 1205 [vr a0, vr a1, vr a2, vi a3] (x.1.toList ++ []) x.2 else none else none else none else none := by
  refine (op_aload_n (pc' := 1187) rfl rfl rfl).trans ?_
  refine (op_aload_n (pc' := 1188) rfl rfl rfl).trans ?_
  refine (op_iload_n (pc' := 1189) rfl rfl rfl).trans ?_
  refine (op_iconst (pc' := 1190) rfl rfl k32_1).trans ?_
  refine (op_iadd (pc' := 1191) rfl rfl).trans ?_
  refine (op_iaload (pc' := 1192) rfl rfl).trans (op_bind fun n1191 => op_ite ?_)
  refine (op_aload_n (pc' := 1193) rfl rfl rfl).trans ?_
  refine (op_iload_n (pc' := 1194) rfl rfl rfl).trans ?_
  refine (op_iconst (pc' := 1195) rfl rfl k32_2).trans ?_
  refine (op_iadd (pc' := 1196) rfl rfl).trans ?_
  refine (op_iaload (pc' := 1197) rfl rfl).trans (op_bind fun n1196 => op_ite ?_)
  refine (op_aload_n (pc' := 1198) rfl rfl rfl).trans ?_
  refine (op_iload_n (pc' := 1199) rfl rfl rfl).trans ?_
  refine (op_iconst (pc' := 1200) rfl rfl k32_3).trans ?_
  refine (op_iadd (pc' := 1201) rfl rfl).trans ?_
  refine (op_iaload (pc' := 1202) rfl rfl).trans (op_bind fun n1201 => op_ite ?_)
  exact op_virtual (pc' := 1205) (m := 0) rfl rfl rfl rfl rfl rfl rfl rfl
theorem B_0_1205 {d : Nat} {h : am_H} {a0 : Option Nat} {a1 : Option Nat} {a2 : Option Nat} {a3 : Int32} {s0 : Int32} : Ev (d + 4) 0 1205 [vr a0, vr a1, vr a2, vi a3] [vi s0] h = (a0).bind fun n1210 => if (hkd h n1210 = 100 ∨ hkd h n1210 = 901) ∧ am_ix (a3 + 1) (hln h n1210) then (a0).bind fun n1215 => if (hkd h n1215 = 100 ∨ hkd h n1215 = 901) ∧ am_ix (a3 + 2) (hln h n1215) then (a0).bind fun n1220 => if (hkd h n1220 = 100 ∨ hkd h n1220 = 901) ∧ am_ix (a3 + 3) (hln h n1220) then (a2).bind fun n1221 => if hkd h n1221 = 11 then (Cl (d + 3) 212 [vr a2, vi (hI h n1210 (Int32.toNatClampNeg (a3 + 1))), vi (hI h n1215 (Int32.toNatClampNeg (a3 + 2))), vi (hI h n1220 (Int32.toNatClampNeg (a3 + 3)))] h).bind fun x => Ev (d + 4) 0 1224 [vr a0, vr a1, vr a2, vi a3] (x.1.toList ++ [vi s0]) x.2 else none else none else none else none := by
  refine (op_aload_n (pc' := 1206) rfl rfl rfl).trans ?_
  refine (op_aload_n (pc' := 1207) rfl rfl rfl).trans ?_
  refine (op_iload_n (pc' := 1208) rfl rfl rfl).trans ?_
  refine (op_iconst (pc' := 1209) rfl rfl k32_1).trans ?_
  refine (op_iadd (pc' := 1210) rfl rfl).trans ?_
  refine (op_iaload (pc' := 1211) rfl rfl).trans (op_bind fun n1210 => op_ite ?_)
  refine (op_aload_n (pc' := 1212) rfl rfl rfl).trans ?_
  refine (op_iload_n (pc' := 1213) rfl rfl rfl).trans ?_
  refine (op_iconst (pc' := 1214) rfl rfl k32_2).trans ?_
  refine (op_iadd (pc' := 1215) rfl rfl).trans ?_
  refine (op_iaload (pc' := 1216) rfl rfl).trans (op_bind fun n1215 => op_ite ?_)
  refine (op_aload_n (pc' := 1217) rfl rfl rfl).trans ?_
  refine (op_iload_n (pc' := 1218) rfl rfl rfl).trans ?_
  refine (op_iconst (pc' := 1219) rfl rfl k32_3).trans ?_
  refine (op_iadd (pc' := 1220) rfl rfl).trans ?_
  refine (op_iaload (pc' := 1221) rfl rfl).trans (op_bind fun n1220 => op_ite ?_)
  exact op_virtual (pc' := 1224) (m := 11) rfl rfl rfl rfl rfl rfl rfl rfl
theorem B_0_1224 {d : Nat} {h : am_H} {a0 : Option Nat} {a1 : Option Nat} {a2 : Option Nat} {a3 : Int32} {s0 : Int32} {s1 : Int32} : Ev (d + 4) 0 1224 [vr a0, vr a1, vr a2, vi a3] [vi s0, vi s1] h = if s1 = s0 then Ev (d + 4) 0 1421 [vr a0, vr a1, vr a2, vi a3] [] h else Ev (d + 4) 0 1227 [vr a0, vr a1, vr a2, vi a3] [] h := by
  exact op_icmpeq (pc' := 1227) rfl rfl
theorem B_0_1227 {d : Nat} {h : am_H} {a0 : Option Nat} {a1 : Option Nat} {a2 : Option Nat} {a3 : Int32} : Ev (d + 4) 0 1227 [vr a0, vr a1, vr a2, vi a3] [] h = if 0 = 0 ∨ 0 = 1 then some (some (vi 0), h) else none := by
  refine (op_iconst (pc' := 1228) rfl rfl k32_0).trans ?_
  exact op_ireturnZ rfl rfl
theorem B_0_1229 {d : Nat} {h : am_H} {a0 : Option Nat} {a1 : Option Nat} {a2 : Option Nat} {a3 : Int32} : Ev (d + 4) 0 1229 [vr a0, vr a1, vr a2, vi a3] [] h = (a0).bind fun n1234 => if (hkd h n1234 = 100 ∨ hkd h n1234 = 901) ∧ am_ix (a3 + 1) (hln h n1234) then (a0).bind fun n1239 => if (hkd h n1239 = 100 ∨ hkd h n1239 = 901) ∧ am_ix (a3 + 2) (hln h n1239) then (a0).bind fun n1244 => if (hkd h n1244 = 100 ∨ hkd h n1244 = 901) ∧ am_ix (a3 + 3) (hln h n1244) then (a1).bind fun n1245 => if hkd h n1245 = 0 then (Cl (d + 3) 137 [vr a1, vi (hI h n1234 (Int32.toNatClampNeg (a3 + 1))), vi (hI h n1239 (Int32.toNatClampNeg (a3 + 2))), vi (hI h n1244 (Int32.toNatClampNeg (a3 + 3)))] h).bind fun x => Ev (d + 4) 0 1248 [vr a0, vr a1, vr a2, vi a3] (x.1.toList ++ []) x.2 else none else none else none else none := by
  refine (op_aload_n (pc' := 1230) rfl rfl rfl).trans ?_
  refine (op_aload_n (pc' := 1231) rfl rfl rfl).trans ?_
  refine (op_iload_n (pc' := 1232) rfl rfl rfl).trans ?_
  refine (op_iconst (pc' := 1233) rfl rfl k32_1).trans ?_
  refine (op_iadd (pc' := 1234) rfl rfl).trans ?_
  refine (op_iaload (pc' := 1235) rfl rfl).trans (op_bind fun n1234 => op_ite ?_)
  refine (op_aload_n (pc' := 1236) rfl rfl rfl).trans ?_
  refine (op_iload_n (pc' := 1237) rfl rfl rfl).trans ?_
  refine (op_iconst (pc' := 1238) rfl rfl k32_2).trans ?_
  refine (op_iadd (pc' := 1239) rfl rfl).trans ?_
  refine (op_iaload (pc' := 1240) rfl rfl).trans (op_bind fun n1239 => op_ite ?_)
  refine (op_aload_n (pc' := 1241) rfl rfl rfl).trans ?_
  refine (op_iload_n (pc' := 1242) rfl rfl rfl).trans ?_
  refine (op_iconst (pc' := 1243) rfl rfl k32_3).trans ?_
  refine (op_iadd (pc' := 1244) rfl rfl).trans ?_
  refine (op_iaload (pc' := 1245) rfl rfl).trans (op_bind fun n1244 => op_ite ?_)
  exact op_virtual (pc' := 1248) (m := 0) rfl rfl rfl rfl rfl rfl rfl rfl
theorem B_0_1248 {d : Nat} {h : am_H} {a0 : Option Nat} {a1 : Option Nat} {a2 : Option Nat} {a3 : Int32} {s0 : Int32} : Ev (d + 4) 0 1248 [vr a0, vr a1, vr a2, vi a3] [vi s0] h = (a0).bind fun n1253 => if (hkd h n1253 = 100 ∨ hkd h n1253 = 901) ∧ am_ix (a3 + 1) (hln h n1253) then (a0).bind fun n1258 => if (hkd h n1258 = 100 ∨ hkd h n1258 = 901) ∧ am_ix (a3 + 2) (hln h n1258) then (a0).bind fun n1263 => if (hkd h n1263 = 100 ∨ hkd h n1263 = 901) ∧ am_ix (a3 + 3) (hln h n1263) then (a2).bind fun n1264 => if hkd h n1264 = 11 then (Cl (d + 3) 213 [vr a2, vi (hI h n1253 (Int32.toNatClampNeg (a3 + 1))), vi (hI h n1258 (Int32.toNatClampNeg (a3 + 2))), vi (hI h n1263 (Int32.toNatClampNeg (a3 + 3)))] h).bind fun x => Ev (d + 4) 0 1267 [vr a0, vr a1, vr a2, vi a3] (x.1.toList ++ [vi s0]) x.2 else none else none else none else none := by
  refine (op_aload_n (pc' := 1249) rfl rfl rfl).trans ?_
  refine (op_aload_n (pc' := 1250) rfl rfl rfl).trans ?_
  refine (op_iload_n (pc' := 1251) rfl rfl rfl).trans ?_
  refine (op_iconst (pc' := 1252) rfl rfl k32_1).trans ?_
  refine (op_iadd (pc' := 1253) rfl rfl).trans ?_
  refine (op_iaload (pc' := 1254) rfl rfl).trans (op_bind fun n1253 => op_ite ?_)
  refine (op_aload_n (pc' := 1255) rfl rfl rfl).trans ?_
  refine (op_iload_n (pc' := 1256) rfl rfl rfl).trans ?_
  refine (op_iconst (pc' := 1257) rfl rfl k32_2).trans ?_
  refine (op_iadd (pc' := 1258) rfl rfl).trans ?_
  refine (op_iaload (pc' := 1259) rfl rfl).trans (op_bind fun n1258 => op_ite ?_)
  refine (op_aload_n (pc' := 1260) rfl rfl rfl).trans ?_
  refine (op_iload_n (pc' := 1261) rfl rfl rfl).trans ?_
  refine (op_iconst (pc' := 1262) rfl rfl k32_3).trans ?_
  refine (op_iadd (pc' := 1263) rfl rfl).trans ?_
  refine (op_iaload (pc' := 1264) rfl rfl).trans (op_bind fun n1263 => op_ite ?_)
  exact op_virtual (pc' := 1267) (m := 11) rfl rfl rfl rfl rfl rfl rfl rfl
theorem B_0_1267 {d : Nat} {h : am_H} {a0 : Option Nat} {a1 : Option Nat} {a2 : Option Nat} {a3 : Int32} {s0 : Int32} {s1 : Int32} : Ev (d + 4) 0 1267 [vr a0, vr a1, vr a2, vi a3] [vi s0, vi s1] h = if s1 = s0 then Ev (d + 4) 0 1421 [vr a0, vr a1, vr a2, vi a3] [] h else Ev (d + 4) 0 1270 [vr a0, vr a1, vr a2, vi a3] [] h := by
  exact op_icmpeq (pc' := 1270) rfl rfl
theorem B_0_1270 {d : Nat} {h : am_H} {a0 : Option Nat} {a1 : Option Nat} {a2 : Option Nat} {a3 : Int32} : Ev (d + 4) 0 1270 [vr a0, vr a1, vr a2, vi a3] [] h = if 0 = 0 ∨ 0 = 1 then some (some (vi 0), h) else none := by
  refine (op_iconst (pc' := 1271) rfl rfl k32_0).trans ?_
  exact op_ireturnZ rfl rfl
theorem B_0_1272 {d : Nat} {h : am_H} {a0 : Option Nat} {a1 : Option Nat} {a2 : Option Nat} {a3 : Int32} : Ev (d + 4) 0 1272 [vr a0, vr a1, vr a2, vi a3] [] h = (a0).bind fun n1277 => if (hkd h n1277 = 100 ∨ hkd h n1277 = 901) ∧ am_ix (a3 + 1) (hln h n1277) then (a0).bind fun n1282 => if (hkd h n1282 = 100 ∨ hkd h n1282 = 901) ∧ am_ix (a3 + 2) (hln h n1282) then (a0).bind fun n1287 => if (hkd h n1287 = 100 ∨ hkd h n1287 = 901) ∧ am_ix (a3 + 3) (hln h n1287) then (a0).bind fun n1292 => if (hkd h n1292 = 100 ∨ hkd h n1292 = 901) ∧ am_ix (a3 + 4) (hln h n1292) then (a0).bind fun n1297 => if (hkd h n1297 = 100 ∨ hkd h n1297 = 901) ∧ am_ix (a3 + 5) (hln h n1297) then (a1).bind fun n1298 => if hkd h n1298 = 0 then (Cl (d + 3) 140 [vr a1, vi (hI h n1277 (Int32.toNatClampNeg (a3 + 1))), vi (hI h n1282 (Int32.toNatClampNeg (a3 + 2))), vi (hI h n1287 (Int32.toNatClampNeg (a3 + 3))), vi (hI h n1292 (Int32.toNatClampNeg (a3 + 4))), vi (hI h n1297 (Int32.toNatClampNeg (a3 + 5)))] h).bind fun x => Ev (d + 4) 0 1301 [vr a0, vr a1, vr a2, vi a3] (x.1.toList ++ []) x.2 else none else none else none else none else none else none := by
  refine (op_aload_n (pc' := 1273) rfl rfl rfl).trans ?_
  refine (op_aload_n (pc' := 1274) rfl rfl rfl).trans ?_
  refine (op_iload_n (pc' := 1275) rfl rfl rfl).trans ?_
  refine (op_iconst (pc' := 1276) rfl rfl k32_1).trans ?_
  refine (op_iadd (pc' := 1277) rfl rfl).trans ?_
  refine (op_iaload (pc' := 1278) rfl rfl).trans (op_bind fun n1277 => op_ite ?_)
  refine (op_aload_n (pc' := 1279) rfl rfl rfl).trans ?_
  refine (op_iload_n (pc' := 1280) rfl rfl rfl).trans ?_
  refine (op_iconst (pc' := 1281) rfl rfl k32_2).trans ?_
  refine (op_iadd (pc' := 1282) rfl rfl).trans ?_
  refine (op_iaload (pc' := 1283) rfl rfl).trans (op_bind fun n1282 => op_ite ?_)
  refine (op_aload_n (pc' := 1284) rfl rfl rfl).trans ?_
  refine (op_iload_n (pc' := 1285) rfl rfl rfl).trans ?_
  refine (op_iconst (pc' := 1286) rfl rfl k32_3).trans ?_
  refine (op_iadd (pc' := 1287) rfl rfl).trans ?_
  refine (op_iaload (pc' := 1288) rfl rfl).trans (op_bind fun n1287 => op_ite ?_)
  refine (op_aload_n (pc' := 1289) rfl rfl rfl).trans ?_
  refine (op_iload_n (pc' := 1290) rfl rfl rfl).trans ?_
  refine (op_iconst (pc' := 1291) rfl rfl k32_4).trans ?_
  refine (op_iadd (pc' := 1292) rfl rfl).trans ?_
  refine (op_iaload (pc' := 1293) rfl rfl).trans (op_bind fun n1292 => op_ite ?_)
  refine (op_aload_n (pc' := 1294) rfl rfl rfl).trans ?_
  refine (op_iload_n (pc' := 1295) rfl rfl rfl).trans ?_
  refine (op_iconst (pc' := 1296) rfl rfl k32_5).trans ?_
  refine (op_iadd (pc' := 1297) rfl rfl).trans ?_
  refine (op_iaload (pc' := 1298) rfl rfl).trans (op_bind fun n1297 => op_ite ?_)
  exact op_virtual (pc' := 1301) (m := 0) rfl rfl rfl rfl rfl rfl rfl rfl
theorem B_0_1301 {d : Nat} {h : am_H} {a0 : Option Nat} {a1 : Option Nat} {a2 : Option Nat} {a3 : Int32} {s0 : Int32} : Ev (d + 4) 0 1301 [vr a0, vr a1, vr a2, vi a3] [vi s0] h = (a0).bind fun n1306 => if (hkd h n1306 = 100 ∨ hkd h n1306 = 901) ∧ am_ix (a3 + 1) (hln h n1306) then (a0).bind fun n1311 => if (hkd h n1311 = 100 ∨ hkd h n1311 = 901) ∧ am_ix (a3 + 2) (hln h n1311) then (a0).bind fun n1316 => if (hkd h n1316 = 100 ∨ hkd h n1316 = 901) ∧ am_ix (a3 + 3) (hln h n1316) then (a0).bind fun n1321 => if (hkd h n1321 = 100 ∨ hkd h n1321 = 901) ∧ am_ix (a3 + 4) (hln h n1321) then (a0).bind fun n1326 => if (hkd h n1326 = 100 ∨ hkd h n1326 = 901) ∧ am_ix (a3 + 5) (hln h n1326) then (a2).bind fun n1327 => if hkd h n1327 = 11 then (Cl (d + 3) 214 [vr a2, vi (hI h n1306 (Int32.toNatClampNeg (a3 + 1))), vi (hI h n1311 (Int32.toNatClampNeg (a3 + 2))), vi (hI h n1316 (Int32.toNatClampNeg (a3 + 3))), vi (hI h n1321 (Int32.toNatClampNeg (a3 + 4))), vi (hI h n1326 (Int32.toNatClampNeg (a3 + 5)))] h).bind fun x => Ev (d + 4) 0 1330 [vr a0, vr a1, vr a2, vi a3] (x.1.toList ++ [vi s0]) x.2 else none else none else none else none else none else none := by
  refine (op_aload_n (pc' := 1302) rfl rfl rfl).trans ?_
  refine (op_aload_n (pc' := 1303) rfl rfl rfl).trans ?_
  refine (op_iload_n (pc' := 1304) rfl rfl rfl).trans ?_
  refine (op_iconst (pc' := 1305) rfl rfl k32_1).trans ?_
  refine (op_iadd (pc' := 1306) rfl rfl).trans ?_
  refine (op_iaload (pc' := 1307) rfl rfl).trans (op_bind fun n1306 => op_ite ?_)
  refine (op_aload_n (pc' := 1308) rfl rfl rfl).trans ?_
  refine (op_iload_n (pc' := 1309) rfl rfl rfl).trans ?_
  refine (op_iconst (pc' := 1310) rfl rfl k32_2).trans ?_
  refine (op_iadd (pc' := 1311) rfl rfl).trans ?_
  refine (op_iaload (pc' := 1312) rfl rfl).trans (op_bind fun n1311 => op_ite ?_)
  refine (op_aload_n (pc' := 1313) rfl rfl rfl).trans ?_
  refine (op_iload_n (pc' := 1314) rfl rfl rfl).trans ?_
  refine (op_iconst (pc' := 1315) rfl rfl k32_3).trans ?_
  refine (op_iadd (pc' := 1316) rfl rfl).trans ?_
  refine (op_iaload (pc' := 1317) rfl rfl).trans (op_bind fun n1316 => op_ite ?_)
  refine (op_aload_n (pc' := 1318) rfl rfl rfl).trans ?_
  refine (op_iload_n (pc' := 1319) rfl rfl rfl).trans ?_
  refine (op_iconst (pc' := 1320) rfl rfl k32_4).trans ?_
  refine (op_iadd (pc' := 1321) rfl rfl).trans ?_
  refine (op_iaload (pc' := 1322) rfl rfl).trans (op_bind fun n1321 => op_ite ?_)
  refine (op_aload_n (pc' := 1323) rfl rfl rfl).trans ?_
  refine (op_iload_n (pc' := 1324) rfl rfl rfl).trans ?_
  refine (op_iconst (pc' := 1325) rfl rfl k32_5).trans ?_
  refine (op_iadd (pc' := 1326) rfl rfl).trans ?_
  refine (op_iaload (pc' := 1327) rfl rfl).trans (op_bind fun n1326 => op_ite ?_)
  exact op_virtual (pc' := 1330) (m := 11) rfl rfl rfl rfl rfl rfl rfl rfl
theorem B_0_1330 {d : Nat} {h : am_H} {a0 : Option Nat} {a1 : Option Nat} {a2 : Option Nat} {a3 : Int32} {s0 : Int32} {s1 : Int32} : Ev (d + 4) 0 1330 [vr a0, vr a1, vr a2, vi a3] [vi s0, vi s1] h = if s1 = s0 then Ev (d + 4) 0 1421 [vr a0, vr a1, vr a2, vi a3] [] h else Ev (d + 4) 0 1333 [vr a0, vr a1, vr a2, vi a3] [] h := by
  exact op_icmpeq (pc' := 1333) rfl rfl
theorem B_0_1333 {d : Nat} {h : am_H} {a0 : Option Nat} {a1 : Option Nat} {a2 : Option Nat} {a3 : Int32} : Ev (d + 4) 0 1333 [vr a0, vr a1, vr a2, vi a3] [] h = if 0 = 0 ∨ 0 = 1 then some (some (vi 0), h) else none := by
  refine (op_iconst (pc' := 1334) rfl rfl k32_0).trans ?_
  exact op_ireturnZ rfl rfl
theorem B_0_1335 {d : Nat} {h : am_H} {a0 : Option Nat} {a1 : Option Nat} {a2 : Option Nat} {a3 : Int32} : Ev (d + 4) 0 1335 [vr a0, vr a1, vr a2, vi a3] [] h = (a0).bind fun n1340 => if (hkd h n1340 = 100 ∨ hkd h n1340 = 901) ∧ am_ix (a3 + 1) (hln h n1340) then (a0).bind fun n1345 => if (hkd h n1345 = 100 ∨ hkd h n1345 = 901) ∧ am_ix (a3 + 2) (hln h n1345) then (a0).bind fun n1350 => if (hkd h n1350 = 100 ∨ hkd h n1350 = 901) ∧ am_ix (a3 + 3) (hln h n1350) then (a0).bind fun n1355 => if (hkd h n1355 = 100 ∨ hkd h n1355 = 901) ∧ am_ix (a3 + 4) (hln h n1355) then (a1).bind fun n1356 => if hkd h n1356 = 0 then (Cl (d + 3) 141 [vr a1, vi (hI h n1340 (Int32.toNatClampNeg (a3 + 1))), vi (hI h n1345 (Int32.toNatClampNeg (a3 + 2))), vi (hI h n1350 (Int32.toNatClampNeg (a3 + 3))), vi (hI h n1355 (Int32.toNatClampNeg (a3 + 4)))] h).bind fun x => Ev (d + 4) 0 1359 [vr a0, vr a1, vr a2, vi a3] (x.1.toList ++ []) x.2 else none else none else none else none else none := by
  refine (op_aload_n (pc' := 1336) rfl rfl rfl).trans ?_
  refine (op_aload_n (pc' := 1337) rfl rfl rfl).trans ?_
  refine (op_iload_n (pc' := 1338) rfl rfl rfl).trans ?_
  refine (op_iconst (pc' := 1339) rfl rfl k32_1).trans ?_
  refine (op_iadd (pc' := 1340) rfl rfl).trans ?_
  refine (op_iaload (pc' := 1341) rfl rfl).trans (op_bind fun n1340 => op_ite ?_)
  refine (op_aload_n (pc' := 1342) rfl rfl rfl).trans ?_
  refine (op_iload_n (pc' := 1343) rfl rfl rfl).trans ?_
  refine (op_iconst (pc' := 1344) rfl rfl k32_2).trans ?_
  refine (op_iadd (pc' := 1345) rfl rfl).trans ?_
  refine (op_iaload (pc' := 1346) rfl rfl).trans (op_bind fun n1345 => op_ite ?_)
  refine (op_aload_n (pc' := 1347) rfl rfl rfl).trans ?_
  refine (op_iload_n (pc' := 1348) rfl rfl rfl).trans ?_
  refine (op_iconst (pc' := 1349) rfl rfl k32_3).trans ?_
  refine (op_iadd (pc' := 1350) rfl rfl).trans ?_
  refine (op_iaload (pc' := 1351) rfl rfl).trans (op_bind fun n1350 => op_ite ?_)
  refine (op_aload_n (pc' := 1352) rfl rfl rfl).trans ?_
  refine (op_iload_n (pc' := 1353) rfl rfl rfl).trans ?_
  refine (op_iconst (pc' := 1354) rfl rfl k32_4).trans ?_
  refine (op_iadd (pc' := 1355) rfl rfl).trans ?_
  refine (op_iaload (pc' := 1356) rfl rfl).trans (op_bind fun n1355 => op_ite ?_)
  exact op_virtual (pc' := 1359) (m := 0) rfl rfl rfl rfl rfl rfl rfl rfl
theorem B_0_1359 {d : Nat} {h : am_H} {a0 : Option Nat} {a1 : Option Nat} {a2 : Option Nat} {a3 : Int32} {s0 : Int32} : Ev (d + 4) 0 1359 [vr a0, vr a1, vr a2, vi a3] [vi s0] h = (a0).bind fun n1364 => if (hkd h n1364 = 100 ∨ hkd h n1364 = 901) ∧ am_ix (a3 + 1) (hln h n1364) then (a0).bind fun n1369 => if (hkd h n1369 = 100 ∨ hkd h n1369 = 901) ∧ am_ix (a3 + 2) (hln h n1369) then (a0).bind fun n1374 => if (hkd h n1374 = 100 ∨ hkd h n1374 = 901) ∧ am_ix (a3 + 3) (hln h n1374) then (a0).bind fun n1379 => if (hkd h n1379 = 100 ∨ hkd h n1379 = 901) ∧ am_ix (a3 + 4) (hln h n1379) then (a2).bind fun n1380 => if hkd h n1380 = 11 then (Cl (d + 3) 215 [vr a2, vi (hI h n1364 (Int32.toNatClampNeg (a3 + 1))), vi (hI h n1369 (Int32.toNatClampNeg (a3 + 2))), vi (hI h n1374 (Int32.toNatClampNeg (a3 + 3))), vi (hI h n1379 (Int32.toNatClampNeg (a3 + 4)))] h).bind fun x => Ev (d + 4) 0 1383 [vr a0, vr a1, vr a2, vi a3] (x.1.toList ++ [vi s0]) x.2 else none else none else none else none else none := by
  refine (op_aload_n (pc' := 1360) rfl rfl rfl).trans ?_
  refine (op_aload_n (pc' := 1361) rfl rfl rfl).trans ?_
  refine (op_iload_n (pc' := 1362) rfl rfl rfl).trans ?_
  refine (op_iconst (pc' := 1363) rfl rfl k32_1).trans ?_
  refine (op_iadd (pc' := 1364) rfl rfl).trans ?_
  refine (op_iaload (pc' := 1365) rfl rfl).trans (op_bind fun n1364 => op_ite ?_)
  refine (op_aload_n (pc' := 1366) rfl rfl rfl).trans ?_
  refine (op_iload_n (pc' := 1367) rfl rfl rfl).trans ?_
  refine (op_iconst (pc' := 1368) rfl rfl k32_2).trans ?_
  refine (op_iadd (pc' := 1369) rfl rfl).trans ?_
  refine (op_iaload (pc' := 1370) rfl rfl).trans (op_bind fun n1369 => op_ite ?_)
  refine (op_aload_n (pc' := 1371) rfl rfl rfl).trans ?_
  refine (op_iload_n (pc' := 1372) rfl rfl rfl).trans ?_
  refine (op_iconst (pc' := 1373) rfl rfl k32_3).trans ?_
  refine (op_iadd (pc' := 1374) rfl rfl).trans ?_
  refine (op_iaload (pc' := 1375) rfl rfl).trans (op_bind fun n1374 => op_ite ?_)
  refine (op_aload_n (pc' := 1376) rfl rfl rfl).trans ?_
  refine (op_iload_n (pc' := 1377) rfl rfl rfl).trans ?_
  refine (op_iconst (pc' := 1378) rfl rfl k32_4).trans ?_
  refine (op_iadd (pc' := 1379) rfl rfl).trans ?_
  refine (op_iaload (pc' := 1380) rfl rfl).trans (op_bind fun n1379 => op_ite ?_)
  exact op_virtual (pc' := 1383) (m := 11) rfl rfl rfl rfl rfl rfl rfl rfl
theorem B_0_1383 {d : Nat} {h : am_H} {a0 : Option Nat} {a1 : Option Nat} {a2 : Option Nat} {a3 : Int32} {s0 : Int32} {s1 : Int32} : Ev (d + 4) 0 1383 [vr a0, vr a1, vr a2, vi a3] [vi s0, vi s1] h = if s1 = s0 then Ev (d + 4) 0 1421 [vr a0, vr a1, vr a2, vi a3] [] h else Ev (d + 4) 0 1386 [vr a0, vr a1, vr a2, vi a3] [] h := by
  exact op_icmpeq (pc' := 1386) rfl rfl
theorem B_0_1386 {d : Nat} {h : am_H} {a0 : Option Nat} {a1 : Option Nat} {a2 : Option Nat} {a3 : Int32} : Ev (d + 4) 0 1386 [vr a0, vr a1, vr a2, vi a3] [] h = if 0 = 0 ∨ 0 = 1 then some (some (vi 0), h) else none := by
  refine (op_iconst (pc' := 1387) rfl rfl k32_0).trans ?_
  exact op_ireturnZ rfl rfl
theorem B_0_1388 {d : Nat} {h : am_H} {a0 : Option Nat} {a1 : Option Nat} {a2 : Option Nat} {a3 : Int32} : Ev (d + 4) 0 1388 [vr a0, vr a1, vr a2, vi a3] [] h = (a0).bind fun n1393 => if (hkd h n1393 = 100 ∨ hkd h n1393 = 901) ∧ am_ix (a3 + 1) (hln h n1393) then (a0).bind fun n1398 => if (hkd h n1398 = 100 ∨ hkd h n1398 = 901) ∧ am_ix (a3 + 2) (hln h n1398) then (a1).bind fun n1399 => if hkd h n1399 = 0 then (Cl (d + 3) 142 [vr a1, vi (hI h n1393 (Int32.toNatClampNeg (a3 + 1))), vi (hI h n1398 (Int32.toNatClampNeg (a3 + 2)))] h).bind fun x => Ev (d + 4) 0 1402 [vr a0, vr a1, vr a2, vi a3] (x.1.toList ++ []) x.2 else none else none else none := by
  refine (op_aload_n (pc' := 1389) rfl rfl rfl).trans ?_
  refine (op_aload_n (pc' := 1390) rfl rfl rfl).trans ?_
  refine (op_iload_n (pc' := 1391) rfl rfl rfl).trans ?_
  refine (op_iconst (pc' := 1392) rfl rfl k32_1).trans ?_
  refine (op_iadd (pc' := 1393) rfl rfl).trans ?_
  refine (op_iaload (pc' := 1394) rfl rfl).trans (op_bind fun n1393 => op_ite ?_)
  refine (op_aload_n (pc' := 1395) rfl rfl rfl).trans ?_
  refine (op_iload_n (pc' := 1396) rfl rfl rfl).trans ?_
  refine (op_iconst (pc' := 1397) rfl rfl k32_2).trans ?_
  refine (op_iadd (pc' := 1398) rfl rfl).trans ?_
  refine (op_iaload (pc' := 1399) rfl rfl).trans (op_bind fun n1398 => op_ite ?_)
  exact op_virtual (pc' := 1402) (m := 0) rfl rfl rfl rfl rfl rfl rfl rfl
theorem B_0_1402 {d : Nat} {h : am_H} {a0 : Option Nat} {a1 : Option Nat} {a2 : Option Nat} {a3 : Int32} {s0 : Int32} : Ev (d + 4) 0 1402 [vr a0, vr a1, vr a2, vi a3] [vi s0] h = (a0).bind fun n1407 => if (hkd h n1407 = 100 ∨ hkd h n1407 = 901) ∧ am_ix (a3 + 1) (hln h n1407) then (a0).bind fun n1412 => if (hkd h n1412 = 100 ∨ hkd h n1412 = 901) ∧ am_ix (a3 + 2) (hln h n1412) then (a2).bind fun n1413 => if hkd h n1413 = 11 then (Cl (d + 3) 216 [vr a2, vi (hI h n1407 (Int32.toNatClampNeg (a3 + 1))), vi (hI h n1412 (Int32.toNatClampNeg (a3 + 2)))] h).bind fun x => Ev (d + 4) 0 1416 [vr a0, vr a1, vr a2, vi a3] (x.1.toList ++ [vi s0]) x.2 else none else none else none := by
  refine (op_aload_n (pc' := 1403) rfl rfl rfl).trans ?_
  refine (op_aload_n (pc' := 1404) rfl rfl rfl).trans ?_
  refine (op_iload_n (pc' := 1405) rfl rfl rfl).trans ?_
  refine (op_iconst (pc' := 1406) rfl rfl k32_1).trans ?_
  refine (op_iadd (pc' := 1407) rfl rfl).trans ?_
  refine (op_iaload (pc' := 1408) rfl rfl).trans (op_bind fun n1407 => op_ite ?_)
  refine (op_aload_n (pc' := 1409) rfl rfl rfl).trans ?_
  refine (op_iload_n (pc' := 1410) rfl rfl rfl).trans ?_
  refine (op_iconst (pc' := 1411) rfl rfl k32_2).trans ?_
  refine (op_iadd (pc' := 1412) rfl rfl).trans ?_
  refine (op_iaload (pc' := 1413) rfl rfl).trans (op_bind fun n1412 => op_ite ?_)
  exact op_virtual (pc' := 1416) (m := 11) rfl rfl rfl rfl rfl rfl rfl rfl
theorem B_0_1416 {d : Nat} {h : am_H} {a0 : Option Nat} {a1 : Option Nat} {a2 : Option Nat} {a3 : Int32} {s0 : Int32} {s1 : Int32} : Ev (d + 4) 0 1416 [vr a0, vr a1, vr a2, vi a3] [vi s0, vi s1] h = if s1 = s0 then Ev (d + 4) 0 1421 [vr a0, vr a1, vr a2, vi a3] [] h else Ev (d + 4) 0 1419 [vr a0, vr a1, vr a2, vi a3] [] h := by
  exact op_icmpeq (pc' := 1419) rfl rfl
theorem B_0_1419 {d : Nat} {h : am_H} {a0 : Option Nat} {a1 : Option Nat} {a2 : Option Nat} {a3 : Int32} : Ev (d + 4) 0 1419 [vr a0, vr a1, vr a2, vi a3] [] h = if 0 = 0 ∨ 0 = 1 then some (some (vi 0), h) else none := by
  refine (op_iconst (pc' := 1420) rfl rfl k32_0).trans ?_
  exact op_ireturnZ rfl rfl
theorem B_0_1421 {d : Nat} {h : am_H} {a0 : Option Nat} {a1 : Option Nat} {a2 : Option Nat} {a3 : Int32} : Ev (d + 4) 0 1421 [vr a0, vr a1, vr a2, vi a3] [] h = Ev (d + 4) 0 18 [vr a0, vr a1, vr a2, vi (a3 + 6)] [] h := by
  refine (op_iinc (pc' := 1424) (ls' := [vr a0, vr a1, vr a2, vi (a3 + 6)]) rfl rfl rfl k32_6 rfl).trans ?_
  refine (op_goto rfl).trans ?_
  rfl
theorem B_0_1427 {d : Nat} {h : am_H} {a0 : Option Nat} {a1 : Option Nat} {a2 : Option Nat} {a3 : Int32} : Ev (d + 4) 0 1427 [vr a0, vr a1, vr a2, vi a3] [] h = if 1 = 0 ∨ 1 = 1 then some (some (vi 1), h) else none := by
  refine (op_iconst (pc' := 1428) rfl rfl k32_1).trans ?_
  exact op_ireturnZ rfl rfl
/-! 1 DrumWorld.<init>()V -/
theorem E_1 {d : Nat} {h : am_H} {a0 : Option Nat} : Cl d 1 [vr a0] h = Ev d 1 0 [vr a0, vu] [] h := if_pos (Nat.le_of_ble_eq_true rfl)
theorem B_1_0 {d : Nat} {h : am_H} {a0 : Option Nat} : Ev (d + 4) 1 0 [vr a0, vu] [] h = (a0).bind fun _ => if hk h < 900000 then Ev (d + 4) 1 8 [vr a0, vu] [vr (some (hk h + 1)), vr a0] (newc h 1 0 3) else none := by
  refine (op_aload_n (pc' := 1) rfl rfl rfl).trans ?_
  refine (op_specialO (pc' := 4) (st' := []) rfl rfl rfl rfl rfl).trans (op_bind fun _ => ?_)
  refine (op_aload_n (pc' := 5) rfl rfl rfl).trans ?_
  refine (op_new (pc' := 8) (k := 3) rfl rfl rfl).trans (op_ite ?_)
  rfl
theorem B_1_8 {d : Nat} {h : am_H} {a0 : Option Nat} {s0 : Option Nat} {s1 : Option Nat} : Ev (d + 4) 1 8 [vr a0, vu] [vr s0, vr s1] h = (s0).bind fun _ => (Cl (d + 3) 2 [vr s0] h).bind fun x => Ev (d + 4) 1 12 [vr a0, vu] (x.1.toList ++ [vr s0, vr s1]) x.2 := by
  refine (op_dup (pc' := 9) rfl rfl rfl).trans ?_
  exact op_special (pc' := 12) rfl rfl rfl rfl rfl rfl rfl
theorem B_1_12 {d : Nat} {h : am_H} {a0 : Option Nat} {s0 : Option Nat} {s1 : Option Nat} : Ev (d + 4) 1 12 [vr a0, vu] [vr s0, vr s1] h = (s1).bind fun n12 => if hkd h n12 = 0 then if hk (setR h n12 0 s0) < 900000 ∧ am_ix 8 4096 then Ev (d + 4) 1 21 [vr a0, vu] [vr (some (hk (setR h n12 0 s0) + 1)), vr a0] (newc (setR h n12 0 s0) 118 (Int32.toNatClampNeg 8) (Int32.toNatClampNeg 8)) else none else none := by
  refine (op_putR (pc' := 15) rfl rfl rfl).trans (op_bind fun n12 => op_ite ?_)
  refine (op_aload_n (pc' := 16) rfl rfl rfl).trans ?_
  refine (op_bipush (pc' := 18) rfl rfl k32_8).trans ?_
  refine (op_anewarray (pc' := 21) rfl rfl).trans (op_ite ?_)
  rfl
theorem B_1_21 {d : Nat} {h : am_H} {a0 : Option Nat} {s0 : Option Nat} {s1 : Option Nat} : Ev (d + 4) 1 21 [vr a0, vu] [vr s0, vr s1] h = (s1).bind fun n21 => if hkd h n21 = 0 then if hk (setR h n21 1 s0) < 900000 ∧ am_ix 6 4096 then Ev (d + 4) 1 30 [vr a0, vu] [vr (some (hk (setR h n21 1 s0) + 1)), vr a0] (newc (setR h n21 1 s0) 119 (Int32.toNatClampNeg 6) (Int32.toNatClampNeg 6)) else none else none := by
  refine (op_putR (pc' := 24) rfl rfl rfl).trans (op_bind fun n21 => op_ite ?_)
  refine (op_aload_n (pc' := 25) rfl rfl rfl).trans ?_
  refine (op_bipush (pc' := 27) rfl rfl k32_6).trans ?_
  refine (op_anewarray (pc' := 30) rfl rfl).trans (op_ite ?_)
  rfl
theorem B_1_30 {d : Nat} {h : am_H} {a0 : Option Nat} {s0 : Option Nat} {s1 : Option Nat} : Ev (d + 4) 1 30 [vr a0, vu] [vr s0, vr s1] h = (s1).bind fun n30 => if hkd h n30 = 0 then if hk (setR h n30 2 s0) < 900000 ∧ am_ix 40 4096 then Ev (d + 4) 1 39 [vr a0, vu] [vr (some (hk (setR h n30 2 s0) + 1)), vr a0] (newc (setR h n30 2 s0) 120 (Int32.toNatClampNeg 40) (Int32.toNatClampNeg 40)) else none else none := by
  refine (op_putR (pc' := 33) rfl rfl rfl).trans (op_bind fun n30 => op_ite ?_)
  refine (op_aload_n (pc' := 34) rfl rfl rfl).trans ?_
  refine (op_bipush (pc' := 36) rfl rfl k32_40).trans ?_
  refine (op_anewarray (pc' := 39) rfl rfl).trans (op_ite ?_)
  rfl
theorem B_1_39 {d : Nat} {h : am_H} {a0 : Option Nat} {s0 : Option Nat} {s1 : Option Nat} : Ev (d + 4) 1 39 [vr a0, vu] [vr s0, vr s1] h = (s1).bind fun n39 => if hkd h n39 = 0 then if hk (setR h n39 3 s0) < 900000 then Ev (d + 4) 1 46 [vr a0, vu] [vr (some (hk (setR h n39 3 s0) + 1)), vr a0] (newc (setR h n39 3 s0) 2 0 4) else none else none := by
  refine (op_putR (pc' := 42) rfl rfl rfl).trans (op_bind fun n39 => op_ite ?_)
  refine (op_aload_n (pc' := 43) rfl rfl rfl).trans ?_
  refine (op_new (pc' := 46) (k := 4) rfl rfl rfl).trans (op_ite ?_)
  rfl
theorem B_1_46 {d : Nat} {h : am_H} {a0 : Option Nat} {s0 : Option Nat} {s1 : Option Nat} : Ev (d + 4) 1 46 [vr a0, vu] [vr s0, vr s1] h = (s0).bind fun _ => (Cl (d + 3) 3 [vr s0] h).bind fun x => Ev (d + 4) 1 50 [vr a0, vu] (x.1.toList ++ [vr s0, vr s1]) x.2 := by
  refine (op_dup (pc' := 47) rfl rfl rfl).trans ?_
  exact op_special (pc' := 50) rfl rfl rfl rfl rfl rfl rfl
theorem B_1_50 {d : Nat} {h : am_H} {a0 : Option Nat} {s0 : Option Nat} {s1 : Option Nat} : Ev (d + 4) 1 50 [vr a0, vu] [vr s0, vr s1] h = (s1).bind fun n50 => if hkd h n50 = 0 then (a0).bind fun n55 => if hkd (setR h n50 8 s0) n55 = 0 then ((hR (setR h n50 8 s0) n55 8)).bind fun n58 => if hkd (setR h n50 8 s0) n58 = 2 then (a0).bind fun n61 => if hkd (setR h n50 8 s0) n61 = 0 then Ev (d + 4) 1 64 [vr a0, vu] [] (setR (setR h n50 8 s0) n61 9 (hR (setR h n50 8 s0) n58 0)) else none else none else none else none := by
  refine (op_putR (pc' := 53) rfl rfl rfl).trans (op_bind fun n50 => op_ite ?_)
  refine (op_aload_n (pc' := 54) rfl rfl rfl).trans ?_
  refine (op_aload_n (pc' := 55) rfl rfl rfl).trans ?_
  refine (op_getR (pc' := 58) rfl rfl (by decide) rfl).trans (op_bind fun n55 => op_ite ?_)
  refine (op_getR (pc' := 61) rfl rfl (by decide) rfl).trans (op_bind fun n58 => op_ite ?_)
  refine (op_putR (pc' := 64) rfl rfl rfl).trans (op_bind fun n61 => op_ite ?_)
  rfl
theorem B_1_64 {d : Nat} {h : am_H} {a0 : Option Nat} : Ev (d + 4) 1 64 [vr a0, vu] [] h = if hk h < 900000 ∧ am_ix 6 4096 then Ev (d + 4) 1 70 [vr a0, vu] [vr (some (hk h + 1)), vr a0] (newc h 117 (Int32.toNatClampNeg 6) (Int32.toNatClampNeg 6)) else none := by
  refine (op_aload_n (pc' := 65) rfl rfl rfl).trans ?_
  refine (op_bipush (pc' := 67) rfl rfl k32_6).trans ?_
  refine (op_anewarray (pc' := 70) rfl rfl).trans (op_ite ?_)
  rfl
theorem B_1_70 {d : Nat} {h : am_H} {a0 : Option Nat} {s0 : Option Nat} {s1 : Option Nat} : Ev (d + 4) 1 70 [vr a0, vu] [vr s0, vr s1] h = (s1).bind fun n70 => if hkd h n70 = 0 then if hk (setR h n70 10 s0) < 900000 ∧ am_ix 6 4096 then Ev (d + 4) 1 78 [vr a0, vu] [vr (some (hk (setR h n70 10 s0) + 1)), vr a0] (newc (setR h n70 10 s0) 100 (Int32.toNatClampNeg 6) (Int32.toNatClampNeg 6)) else none else none := by
  refine (op_putR (pc' := 73) rfl rfl rfl).trans (op_bind fun n70 => op_ite ?_)
  refine (op_aload_n (pc' := 74) rfl rfl rfl).trans ?_
  refine (op_bipush (pc' := 76) rfl rfl k32_6).trans ?_
  refine (op_newarray (pc' := 78) rfl rfl).trans (op_ite ?_)
  rfl
theorem B_1_78 {d : Nat} {h : am_H} {a0 : Option Nat} {s0 : Option Nat} {s1 : Option Nat} : Ev (d + 4) 1 78 [vr a0, vu] [vr s0, vr s1] h = (s1).bind fun n78 => if hkd h n78 = 0 then if hk (setR h n78 13 s0) < 900000 then Ev (d + 4) 1 85 [vr a0, vu] [vr (some (hk (setR h n78 13 s0) + 1)), vr a0] (newc (setR h n78 13 s0) 4 0 13) else none else none := by
  refine (op_putR (pc' := 81) rfl rfl rfl).trans (op_bind fun n78 => op_ite ?_)
  refine (op_aload_n (pc' := 82) rfl rfl rfl).trans ?_
  refine (op_new (pc' := 85) (k := 13) rfl rfl rfl).trans (op_ite ?_)
  rfl
theorem B_1_85 {d : Nat} {h : am_H} {a0 : Option Nat} {s0 : Option Nat} {s1 : Option Nat} : Ev (d + 4) 1 85 [vr a0, vu] [vr s0, vr s1] h = (s0).bind fun _ => (Cl (d + 3) 5 [vr s0] h).bind fun x => Ev (d + 4) 1 89 [vr a0, vu] (x.1.toList ++ [vr s0, vr s1]) x.2 := by
  refine (op_dup (pc' := 86) rfl rfl rfl).trans ?_
  exact op_special (pc' := 89) rfl rfl rfl rfl rfl rfl rfl
theorem B_1_89 {d : Nat} {h : am_H} {a0 : Option Nat} {s0 : Option Nat} {s1 : Option Nat} : Ev (d + 4) 1 89 [vr a0, vu] [vr s0, vr s1] h = (s1).bind fun n89 => if hkd h n89 = 0 then if hk (setR h n89 14 s0) < 900000 ∧ am_ix 3 4096 then Ev (d + 4) 1 96 [vr a0, vu] [vr (some (hk (setR h n89 14 s0) + 1)), vr a0] (newc (setR h n89 14 s0) 100 (Int32.toNatClampNeg 3) (Int32.toNatClampNeg 3)) else none else none := by
  refine (op_putR (pc' := 92) rfl rfl rfl).trans (op_bind fun n89 => op_ite ?_)
  refine (op_aload_n (pc' := 93) rfl rfl rfl).trans ?_
  refine (op_iconst (pc' := 94) rfl rfl k32_3).trans ?_
  refine (op_newarray (pc' := 96) rfl rfl).trans (op_ite ?_)
  rfl
theorem B_1_96 {d : Nat} {h : am_H} {a0 : Option Nat} {s0 : Option Nat} {s1 : Option Nat} : Ev (d + 4) 1 96 [vr a0, vu] [vr s0, vr s1] h = (s1).bind fun n96 => if hkd h n96 = 0 then if hk (setR h n96 15 s0) < 900000 ∧ am_ix 40 4096 then Ev (d + 4) 1 104 [vr a0, vu] [vr (some (hk (setR h n96 15 s0) + 1)), vr a0] (newc (setR h n96 15 s0) 100 (Int32.toNatClampNeg 40) (Int32.toNatClampNeg 40)) else none else none := by
  refine (op_putR (pc' := 99) rfl rfl rfl).trans (op_bind fun n96 => op_ite ?_)
  refine (op_aload_n (pc' := 100) rfl rfl rfl).trans ?_
  refine (op_bipush (pc' := 102) rfl rfl k32_40).trans ?_
  refine (op_newarray (pc' := 104) rfl rfl).trans (op_ite ?_)
  rfl
theorem B_1_104 {d : Nat} {h : am_H} {a0 : Option Nat} {s0 : Option Nat} {s1 : Option Nat} : Ev (d + 4) 1 104 [vr a0, vu] [vr s0, vr s1] h = (s1).bind fun n104 => if hkd h n104 = 0 then if hk (setR h n104 16 s0) < 900000 then Ev (d + 4) 1 111 [vr a0, vu] [vr (some (hk (setR h n104 16 s0) + 1)), vr a0] (newc (setR h n104 16 s0) 5 0 11) else none else none := by
  refine (op_putR (pc' := 107) rfl rfl rfl).trans (op_bind fun n104 => op_ite ?_)
  refine (op_aload_n (pc' := 108) rfl rfl rfl).trans ?_
  refine (op_new (pc' := 111) (k := 11) rfl rfl rfl).trans (op_ite ?_)
  rfl
theorem B_1_111 {d : Nat} {h : am_H} {a0 : Option Nat} {s0 : Option Nat} {s1 : Option Nat} : Ev (d + 4) 1 111 [vr a0, vu] [vr s0, vr s1] h = (s0).bind fun _ => (Cl (d + 3) 6 [vr s0] h).bind fun x => Ev (d + 4) 1 115 [vr a0, vu] (x.1.toList ++ [vr s0, vr s1]) x.2 := by
  refine (op_dup (pc' := 112) rfl rfl rfl).trans ?_
  exact op_special (pc' := 115) rfl rfl rfl rfl rfl rfl rfl
theorem B_1_115 {d : Nat} {h : am_H} {a0 : Option Nat} {s0 : Option Nat} {s1 : Option Nat} : Ev (d + 4) 1 115 [vr a0, vu] [vr s0, vr s1] h = (s1).bind fun n115 => if hkd h n115 = 0 then if hk (setR h n115 18 s0) < 900000 ∧ am_ix 4 4096 then Ev (d + 4) 1 123 [vr a0, vu] [vr (some (hk (setR h n115 18 s0) + 1)), vr a0] (newc (setR h n115 18 s0) 116 (Int32.toNatClampNeg 4) (Int32.toNatClampNeg 4)) else none else none := by
  refine (op_putR (pc' := 118) rfl rfl rfl).trans (op_bind fun n115 => op_ite ?_)
  refine (op_aload_n (pc' := 119) rfl rfl rfl).trans ?_
  refine (op_iconst (pc' := 120) rfl rfl k32_4).trans ?_
  refine (op_anewarray (pc' := 123) rfl rfl).trans (op_ite ?_)
  rfl
theorem B_1_123 {d : Nat} {h : am_H} {a0 : Option Nat} {s0 : Option Nat} {s1 : Option Nat} : Ev (d + 4) 1 123 [vr a0, vu] [vr s0, vr s1] h = (s1).bind fun n123 => if hkd h n123 = 0 then Ev (d + 4) 1 128 [vr a0, vi 0] [] (setR h n123 19 s0) else none := by
  refine (op_putR (pc' := 126) rfl rfl rfl).trans (op_bind fun n123 => op_ite ?_)
  refine (op_iconst (pc' := 127) rfl rfl k32_0).trans ?_
  refine (op_istore_n (pc' := 128) (ls' := [vr a0, vi 0]) rfl rfl rfl rfl).trans ?_
  rfl
theorem B_1_128 {d : Nat} {h : am_H} {a0 : Option Nat} {a1 : Int32} : Ev (d + 4) 1 128 [vr a0, vi a1] [] h = if 4 ≤ a1 then Ev (d + 4) 1 152 [vr a0, vi a1] [] h else Ev (d + 4) 1 133 [vr a0, vi a1] [] h := by
  refine (op_iload_n (pc' := 129) rfl rfl rfl).trans ?_
  refine (op_iconst (pc' := 130) rfl rfl k32_4).trans ?_
  exact op_icmpge (pc' := 133) rfl rfl
theorem B_1_133 {d : Nat} {h : am_H} {a0 : Option Nat} {a1 : Int32} : Ev (d + 4) 1 133 [vr a0, vi a1] [] h = (a0).bind fun n134 => if hkd h n134 = 0 then if hk h < 900000 then Ev (d + 4) 1 141 [vr a0, vi a1] [vr (some (hk h + 1)), vi a1, vr (hR h n134 19)] (newc h 6 0 3) else none else none := by
  refine (op_aload_n (pc' := 134) rfl rfl rfl).trans ?_
  refine (op_getR (pc' := 137) rfl rfl (by decide) rfl).trans (op_bind fun n134 => op_ite ?_)
  refine (op_iload_n (pc' := 138) rfl rfl rfl).trans ?_
  refine (op_new (pc' := 141) (k := 3) rfl rfl rfl).trans (op_ite ?_)
  rfl
theorem B_1_141 {d : Nat} {h : am_H} {a0 : Option Nat} {a1 : Int32} {s0 : Option Nat} {s1 : Int32} {s2 : Option Nat} : Ev (d + 4) 1 141 [vr a0, vi a1] [vr s0, vi s1, vr s2] h = (s0).bind fun _ => (Cl (d + 3) 7 [vr s0] h).bind fun x => Ev (d + 4) 1 145 [vr a0, vi a1] (x.1.toList ++ [vr s0, vi s1, vr s2]) x.2 := by
  refine (op_dup (pc' := 142) rfl rfl rfl).trans ?_
  exact op_special (pc' := 145) rfl rfl rfl rfl rfl rfl rfl
theorem B_1_145 {d : Nat} {h : am_H} {a0 : Option Nat} {a1 : Int32} {s0 : Option Nat} {s1 : Int32} {s2 : Option Nat} : Ev (d + 4) 1 145 [vr a0, vi a1] [vr s0, vi s1, vr s2] h = (s2).bind fun n145 => (s0).bind fun w145 => if (110 ≤ hkd h n145 ∧ hkd h n145 < 190) ∧ hkd h w145 + 110 = hkd h n145 ∧ am_ix s1 (hln h n145) then Ev (d + 4) 1 128 [vr a0, vi (a1 + 1)] [] (setR h n145 (Int32.toNatClampNeg s1) (some w145)) else none := by
  refine (op_aastore (pc' := 146) rfl rfl).trans (op_bind fun n145 => op_bind fun w145 => op_ite ?_)
  refine (op_iinc (pc' := 149) (ls' := [vr a0, vi (a1 + 1)]) rfl rfl rfl k32_1 rfl).trans ?_
  refine (op_goto rfl).trans ?_
  rfl
theorem B_1_152 {d : Nat} {h : am_H} {a0 : Option Nat} {a1 : Int32} : Ev (d + 4) 1 152 [vr a0, vi a1] [] h = (a0).bind fun n153 => if hkd h n153 = 0 then ((hR h n153 9)).bind fun n158 => if hkd h n158 = 3 then (Cl (d + 3) 8 [vr (hR h n153 9), vr (some 1000000)] h).bind fun x => Ev (d + 4) 1 161 [vr a0, vi a1] (x.1.toList ++ []) x.2 else none else none := by
  refine (op_aload_n (pc' := 153) rfl rfl rfl).trans ?_
  refine (op_getR (pc' := 156) rfl rfl (by decide) rfl).trans (op_bind fun n153 => op_ite ?_)
  refine (op_ldcS (pc' := 158) rfl rfl).trans ?_
  exact op_virtual (pc' := 161) (m := 3) rfl rfl rfl rfl rfl rfl rfl rfl
theorem B_1_161 {d : Nat} {h : am_H} {a0 : Option Nat} {a1 : Int32} : Ev (d + 4) 1 161 [vr a0, vi a1] [] h = (a0).bind fun n162 => if hkd h n162 = 0 then (a0).bind fun n167 => if hkd h n167 = 0 then ((hR h n167 8)).bind fun n170 => if hkd h n170 = 2 then (Cl (d + 3) 9 [vr (hR h n167 8)] h).bind fun x => Ev (d + 4) 1 173 [vr a0, vi a1] (x.1.toList ++ [vi 0, vr (hR h n162 10)]) x.2 else none else none else none := by
  refine (op_aload_n (pc' := 162) rfl rfl rfl).trans ?_
  refine (op_getR (pc' := 165) rfl rfl (by decide) rfl).trans (op_bind fun n162 => op_ite ?_)
  refine (op_iconst (pc' := 166) rfl rfl k32_0).trans ?_
  refine (op_aload_n (pc' := 167) rfl rfl rfl).trans ?_
  refine (op_getR (pc' := 170) rfl rfl (by decide) rfl).trans (op_bind fun n167 => op_ite ?_)
  exact op_virtual (pc' := 173) (m := 2) rfl rfl rfl rfl rfl rfl rfl rfl
theorem B_1_173 {d : Nat} {h : am_H} {a0 : Option Nat} {a1 : Int32} {s0 : Option Nat} {s1 : Int32} {s2 : Option Nat} : Ev (d + 4) 1 173 [vr a0, vi a1] [vr s0, vi s1, vr s2] h = (s2).bind fun n173 => (s0).bind fun w173 => if (110 ≤ hkd h n173 ∧ hkd h n173 < 190) ∧ hkd h w173 + 110 = hkd h n173 ∧ am_ix s1 (hln h n173) then (a0).bind fun n176 => if hkd (setR h n173 (Int32.toNatClampNeg s1) (some w173)) n176 = 0 then Ev (d + 4) 1 179 [vr a0, vi a1] [] (setI (setR h n173 (Int32.toNatClampNeg s1) (some w173)) n176 11 1) else none else none := by
  refine (op_aastore (pc' := 174) rfl rfl).trans (op_bind fun n173 => op_bind fun w173 => op_ite ?_)
  refine (op_aload_n (pc' := 175) rfl rfl rfl).trans ?_
  refine (op_iconst (pc' := 176) rfl rfl k32_1).trans ?_
  refine (op_putI (pc' := 179) rfl rfl rfl).trans (op_bind fun n176 => op_ite ?_)
  rfl
theorem B_1_179 {d : Nat} {h : am_H} {a0 : Option Nat} {a1 : Int32} : Ev (d + 4) 1 179 [vr a0, vi a1] [] h = (a0).bind fun n180 => if hkd h n180 = 0 then ((hR h n180 9)).bind fun n183 => if hkd h n183 = 3 then (Cl (d + 3) 32 [vr (hR h n180 9)] h).bind fun x => Ev (d + 4) 1 186 [vr a0, vi a1] (x.1.toList ++ []) x.2 else none else none := by
  refine (op_aload_n (pc' := 180) rfl rfl rfl).trans ?_
  refine (op_getR (pc' := 183) rfl rfl (by decide) rfl).trans (op_bind fun n180 => op_ite ?_)
  exact op_virtual (pc' := 186) (m := 3) rfl rfl rfl rfl rfl rfl rfl rfl
theorem B_1_186 {d : Nat} {h : am_H} {a0 : Option Nat} {a1 : Int32} : Ev (d + 4) 1 186 [vr a0, vi a1] [] h = some (none, h) := by
  exact op_return rfl rfl
/-! 2 DrumWorld$Ball.<init>()V -/
theorem E_2 {d : Nat} {h : am_H} {a0 : Option Nat} : Cl d 2 [vr a0] h = Ev d 2 0 [vr a0] [] h := if_pos (Nat.le_of_ble_eq_true rfl)
theorem B_2_0 {d : Nat} {h : am_H} {a0 : Option Nat} : Ev (d + 4) 2 0 [vr a0] [] h = (a0).bind fun _ => if hk h < 900000 ∧ am_ix 5 4096 then Ev (d + 4) 2 8 [vr a0] [vr (some (hk h + 1)), vr a0] (newc h 100 (Int32.toNatClampNeg 5) (Int32.toNatClampNeg 5)) else none := by
  refine (op_aload_n (pc' := 1) rfl rfl rfl).trans ?_
  refine (op_specialO (pc' := 4) (st' := []) rfl rfl rfl rfl rfl).trans (op_bind fun _ => ?_)
  refine (op_aload_n (pc' := 5) rfl rfl rfl).trans ?_
  refine (op_iconst (pc' := 6) rfl rfl k32_5).trans ?_
  refine (op_newarray (pc' := 8) rfl rfl).trans (op_ite ?_)
  rfl
theorem B_2_8 {d : Nat} {h : am_H} {a0 : Option Nat} {s0 : Option Nat} {s1 : Option Nat} : Ev (d + 4) 2 8 [vr a0] [vr s0, vr s1] h = (s1).bind fun n8 => if hkd h n8 = 1 then if hk (setR h n8 0 s0) < 900000 ∧ am_ix 2 4096 ∧ am_ix 5 4096 then Ev (d + 4) 2 18 [vr a0] [vr (some (hk (setR h n8 0 s0) + 1)), vr a0] (newg (setR h n8 0 s0) (Int32.toNatClampNeg 2) (Int32.toNatClampNeg 5)) else none else none := by
  refine (op_putR (pc' := 11) rfl rfl rfl).trans (op_bind fun n8 => op_ite ?_)
  refine (op_aload_n (pc' := 12) rfl rfl rfl).trans ?_
  refine (op_iconst (pc' := 13) rfl rfl k32_2).trans ?_
  refine (op_iconst (pc' := 14) rfl rfl k32_5).trans ?_
  refine (op_multianewarray (pc' := 18) rfl rfl).trans (op_ite ?_)
  rfl
theorem B_2_18 {d : Nat} {h : am_H} {a0 : Option Nat} {s0 : Option Nat} {s1 : Option Nat} : Ev (d + 4) 2 18 [vr a0] [vr s0, vr s1] h = (s1).bind fun n18 => if hkd h n18 = 1 then some (none, (setR h n18 1 s0)) else none := by
  refine (op_putR (pc' := 21) rfl rfl rfl).trans (op_bind fun n18 => op_ite ?_)
  exact op_return rfl rfl
/-! 3 DrumWorld$Reader.<init>()V -/
theorem E_3 {d : Nat} {h : am_H} {a0 : Option Nat} : Cl d 3 [vr a0] h = Ev d 3 0 [vr a0] [] h := if_pos (Nat.le_of_ble_eq_true rfl)
theorem B_3_0 {d : Nat} {h : am_H} {a0 : Option Nat} : Ev (d + 4) 3 0 [vr a0] [] h = (a0).bind fun _ => if hk h < 900000 then Ev (d + 4) 3 8 [vr a0] [vr (some (hk h + 1)), vr a0] (newc h 3 0 5) else none := by
  refine (op_aload_n (pc' := 1) rfl rfl rfl).trans ?_
  refine (op_specialO (pc' := 4) (st' := []) rfl rfl rfl rfl rfl).trans (op_bind fun _ => ?_)
  refine (op_aload_n (pc' := 5) rfl rfl rfl).trans ?_
  refine (op_new (pc' := 8) (k := 5) rfl rfl rfl).trans (op_ite ?_)
  rfl
theorem B_3_8 {d : Nat} {h : am_H} {a0 : Option Nat} {s0 : Option Nat} {s1 : Option Nat} : Ev (d + 4) 3 8 [vr a0] [vr s0, vr s1] h = (s0).bind fun _ => (Cl (d + 3) 4 [vr s0] h).bind fun x => Ev (d + 4) 3 12 [vr a0] (x.1.toList ++ [vr s0, vr s1]) x.2 := by
  refine (op_dup (pc' := 9) rfl rfl rfl).trans ?_
  exact op_special (pc' := 12) rfl rfl rfl rfl rfl rfl rfl
theorem B_3_12 {d : Nat} {h : am_H} {a0 : Option Nat} {s0 : Option Nat} {s1 : Option Nat} : Ev (d + 4) 3 12 [vr a0] [vr s0, vr s1] h = (s1).bind fun n12 => if hkd h n12 = 2 then if hk (setR h n12 0 s0) < 900000 ∧ am_ix 160 4096 then Ev (d + 4) 3 21 [vr a0] [vr (some (hk (setR h n12 0 s0) + 1)), vr a0] (newc (setR h n12 0 s0) 100 (Int32.toNatClampNeg 160) (Int32.toNatClampNeg 160)) else none else none := by
  refine (op_putR (pc' := 15) rfl rfl rfl).trans (op_bind fun n12 => op_ite ?_)
  refine (op_aload_n (pc' := 16) rfl rfl rfl).trans ?_
  refine (op_sipush (pc' := 19) rfl rfl k32_160).trans ?_
  refine (op_newarray (pc' := 21) rfl rfl).trans (op_ite ?_)
  rfl
theorem B_3_21 {d : Nat} {h : am_H} {a0 : Option Nat} {s0 : Option Nat} {s1 : Option Nat} : Ev (d + 4) 3 21 [vr a0] [vr s0, vr s1] h = (s1).bind fun n21 => if hkd h n21 = 2 then some (none, (setR h n21 2 s0)) else none := by
  refine (op_putR (pc' := 24) rfl rfl rfl).trans (op_bind fun n21 => op_ite ?_)
  exact op_return rfl rfl
/-! 4 DrumWorld$Tape.<init>()V -/
theorem E_4 {d : Nat} {h : am_H} {a0 : Option Nat} : Cl d 4 [vr a0] h = Ev d 4 0 [vr a0] [] h := if_pos (Nat.le_of_ble_eq_true rfl)
theorem B_4_0 {d : Nat} {h : am_H} {a0 : Option Nat} : Ev (d + 4) 4 0 [vr a0] [] h = (a0).bind fun _ => if hk h < 900000 ∧ am_ix 160 4096 then Ev (d + 4) 4 10 [vr a0] [vr (some (hk h + 1)), vr a0] (newc h 100 (Int32.toNatClampNeg 160) (Int32.toNatClampNeg 160)) else none := by
  refine (op_aload_n (pc' := 1) rfl rfl rfl).trans ?_
  refine (op_specialO (pc' := 4) (st' := []) rfl rfl rfl rfl rfl).trans (op_bind fun _ => ?_)
  refine (op_aload_n (pc' := 5) rfl rfl rfl).trans ?_
  refine (op_sipush (pc' := 8) rfl rfl k32_160).trans ?_
  refine (op_newarray (pc' := 10) rfl rfl).trans (op_ite ?_)
  rfl
theorem B_4_10 {d : Nat} {h : am_H} {a0 : Option Nat} {s0 : Option Nat} {s1 : Option Nat} : Ev (d + 4) 4 10 [vr a0] [vr s0, vr s1] h = (s1).bind fun n10 => if hkd h n10 = 3 then if hk (setR h n10 0 s0) < 900000 ∧ am_ix 161 4096 then Ev (d + 4) 4 19 [vr a0] [vr (some (hk (setR h n10 0 s0) + 1)), vr a0] (newc (setR h n10 0 s0) 100 (Int32.toNatClampNeg 161) (Int32.toNatClampNeg 161)) else none else none := by
  refine (op_putR (pc' := 13) rfl rfl rfl).trans (op_bind fun n10 => op_ite ?_)
  refine (op_aload_n (pc' := 14) rfl rfl rfl).trans ?_
  refine (op_sipush (pc' := 17) rfl rfl k32_161).trans ?_
  refine (op_newarray (pc' := 19) rfl rfl).trans (op_ite ?_)
  rfl
theorem B_4_19 {d : Nat} {h : am_H} {a0 : Option Nat} {s0 : Option Nat} {s1 : Option Nat} : Ev (d + 4) 4 19 [vr a0] [vr s0, vr s1] h = (s1).bind fun n19 => if hkd h n19 = 3 then if hk (setR h n19 2 s0) < 900000 ∧ am_ix 161 4096 then Ev (d + 4) 4 28 [vr a0] [vr (some (hk (setR h n19 2 s0) + 1)), vr a0] (newc (setR h n19 2 s0) 100 (Int32.toNatClampNeg 161) (Int32.toNatClampNeg 161)) else none else none := by
  refine (op_putR (pc' := 22) rfl rfl rfl).trans (op_bind fun n19 => op_ite ?_)
  refine (op_aload_n (pc' := 23) rfl rfl rfl).trans ?_
  refine (op_sipush (pc' := 26) rfl rfl k32_161).trans ?_
  refine (op_newarray (pc' := 28) rfl rfl).trans (op_ite ?_)
  rfl
theorem B_4_28 {d : Nat} {h : am_H} {a0 : Option Nat} {s0 : Option Nat} {s1 : Option Nat} : Ev (d + 4) 4 28 [vr a0] [vr s0, vr s1] h = (s1).bind fun n28 => if hkd h n28 = 3 then if hk (setR h n28 3 s0) < 900000 ∧ am_ix 161 4096 then Ev (d + 4) 4 37 [vr a0] [vr (some (hk (setR h n28 3 s0) + 1)), vr a0] (newc (setR h n28 3 s0) 100 (Int32.toNatClampNeg 161) (Int32.toNatClampNeg 161)) else none else none := by
  refine (op_putR (pc' := 31) rfl rfl rfl).trans (op_bind fun n28 => op_ite ?_)
  refine (op_aload_n (pc' := 32) rfl rfl rfl).trans ?_
  refine (op_sipush (pc' := 35) rfl rfl k32_161).trans ?_
  refine (op_newarray (pc' := 37) rfl rfl).trans (op_ite ?_)
  rfl
theorem B_4_37 {d : Nat} {h : am_H} {a0 : Option Nat} {s0 : Option Nat} {s1 : Option Nat} : Ev (d + 4) 4 37 [vr a0] [vr s0, vr s1] h = (s1).bind fun n37 => if hkd h n37 = 3 then some (none, (setR h n37 4 s0)) else none := by
  refine (op_putR (pc' := 40) rfl rfl rfl).trans (op_bind fun n37 => op_ite ?_)
  exact op_return rfl rfl
/-! 5 DrumWorld$Placing.<init>()V -/
theorem E_5 {d : Nat} {h : am_H} {a0 : Option Nat} : Cl d 5 [vr a0] h = Ev d 5 0 [vr a0] [] h := if_pos (Nat.le_of_ble_eq_true rfl)
theorem B_5_0 {d : Nat} {h : am_H} {a0 : Option Nat} : Ev (d + 4) 5 0 [vr a0] [] h = (a0).bind fun _ => if hk h < 900000 ∧ am_ix 40 4096 then Ev (d + 4) 5 9 [vr a0] [vr (some (hk h + 1)), vr a0] (newc h 100 (Int32.toNatClampNeg 40) (Int32.toNatClampNeg 40)) else none := by
  refine (op_aload_n (pc' := 1) rfl rfl rfl).trans ?_
  refine (op_specialO (pc' := 4) (st' := []) rfl rfl rfl rfl rfl).trans (op_bind fun _ => ?_)
  refine (op_aload_n (pc' := 5) rfl rfl rfl).trans ?_
  refine (op_bipush (pc' := 7) rfl rfl k32_40).trans ?_
  refine (op_newarray (pc' := 9) rfl rfl).trans (op_ite ?_)
  rfl
theorem B_5_9 {d : Nat} {h : am_H} {a0 : Option Nat} {s0 : Option Nat} {s1 : Option Nat} : Ev (d + 4) 5 9 [vr a0] [vr s0, vr s1] h = (s1).bind fun n9 => if hkd h n9 = 4 then if hk (setR h n9 0 s0) < 900000 ∧ am_ix 40 4096 then Ev (d + 4) 5 17 [vr a0] [vr (some (hk (setR h n9 0 s0) + 1)), vr a0] (newc (setR h n9 0 s0) 100 (Int32.toNatClampNeg 40) (Int32.toNatClampNeg 40)) else none else none := by
  refine (op_putR (pc' := 12) rfl rfl rfl).trans (op_bind fun n9 => op_ite ?_)
  refine (op_aload_n (pc' := 13) rfl rfl rfl).trans ?_
  refine (op_bipush (pc' := 15) rfl rfl k32_40).trans ?_
  refine (op_newarray (pc' := 17) rfl rfl).trans (op_ite ?_)
  rfl
theorem B_5_17 {d : Nat} {h : am_H} {a0 : Option Nat} {s0 : Option Nat} {s1 : Option Nat} : Ev (d + 4) 5 17 [vr a0] [vr s0, vr s1] h = (s1).bind fun n17 => if hkd h n17 = 4 then if hk (setR h n17 1 s0) < 900000 ∧ am_ix 40 4096 then Ev (d + 4) 5 25 [vr a0] [vr (some (hk (setR h n17 1 s0) + 1)), vr a0] (newc (setR h n17 1 s0) 100 (Int32.toNatClampNeg 40) (Int32.toNatClampNeg 40)) else none else none := by
  refine (op_putR (pc' := 20) rfl rfl rfl).trans (op_bind fun n17 => op_ite ?_)
  refine (op_aload_n (pc' := 21) rfl rfl rfl).trans ?_
  refine (op_bipush (pc' := 23) rfl rfl k32_40).trans ?_
  refine (op_newarray (pc' := 25) rfl rfl).trans (op_ite ?_)
  rfl
theorem B_5_25 {d : Nat} {h : am_H} {a0 : Option Nat} {s0 : Option Nat} {s1 : Option Nat} : Ev (d + 4) 5 25 [vr a0] [vr s0, vr s1] h = (s1).bind fun n25 => if hkd h n25 = 4 then if hk (setR h n25 2 s0) < 900000 ∧ am_ix 40 4096 then Ev (d + 4) 5 33 [vr a0] [vr (some (hk (setR h n25 2 s0) + 1)), vr a0] (newc (setR h n25 2 s0) 100 (Int32.toNatClampNeg 40) (Int32.toNatClampNeg 40)) else none else none := by
  refine (op_putR (pc' := 28) rfl rfl rfl).trans (op_bind fun n25 => op_ite ?_)
  refine (op_aload_n (pc' := 29) rfl rfl rfl).trans ?_
  refine (op_bipush (pc' := 31) rfl rfl k32_40).trans ?_
  refine (op_newarray (pc' := 33) rfl rfl).trans (op_ite ?_)
  rfl
theorem B_5_33 {d : Nat} {h : am_H} {a0 : Option Nat} {s0 : Option Nat} {s1 : Option Nat} : Ev (d + 4) 5 33 [vr a0] [vr s0, vr s1] h = (s1).bind fun n33 => if hkd h n33 = 4 then if hk (setR h n33 4 s0) < 900000 ∧ am_ix 40 4096 then Ev (d + 4) 5 41 [vr a0] [vr (some (hk (setR h n33 4 s0) + 1)), vr a0] (newc (setR h n33 4 s0) 100 (Int32.toNatClampNeg 40) (Int32.toNatClampNeg 40)) else none else none := by
  refine (op_putR (pc' := 36) rfl rfl rfl).trans (op_bind fun n33 => op_ite ?_)
  refine (op_aload_n (pc' := 37) rfl rfl rfl).trans ?_
  refine (op_bipush (pc' := 39) rfl rfl k32_40).trans ?_
  refine (op_newarray (pc' := 41) rfl rfl).trans (op_ite ?_)
  rfl
theorem B_5_41 {d : Nat} {h : am_H} {a0 : Option Nat} {s0 : Option Nat} {s1 : Option Nat} : Ev (d + 4) 5 41 [vr a0] [vr s0, vr s1] h = (s1).bind fun n41 => if hkd h n41 = 4 then if hk (setR h n41 5 s0) < 900000 ∧ am_ix 6 4096 then Ev (d + 4) 5 49 [vr a0] [vr (some (hk (setR h n41 5 s0) + 1)), vr a0] (newc (setR h n41 5 s0) 101 (Int32.toNatClampNeg 6) (Int32.toNatClampNeg 6)) else none else none := by
  refine (op_putR (pc' := 44) rfl rfl rfl).trans (op_bind fun n41 => op_ite ?_)
  refine (op_aload_n (pc' := 45) rfl rfl rfl).trans ?_
  refine (op_bipush (pc' := 47) rfl rfl k32_6).trans ?_
  refine (op_newarray (pc' := 49) rfl rfl).trans (op_ite ?_)
  rfl
theorem B_5_49 {d : Nat} {h : am_H} {a0 : Option Nat} {s0 : Option Nat} {s1 : Option Nat} : Ev (d + 4) 5 49 [vr a0] [vr s0, vr s1] h = (s1).bind fun n49 => if hkd h n49 = 4 then if hk (setR h n49 6 s0) < 900000 ∧ am_ix 6 4096 ∧ am_ix 181 4096 then Ev (d + 4) 5 62 [vr a0] [vr (some (hk (setR h n49 6 s0) + 1)), vr a0] (newg (setR h n49 6 s0) (Int32.toNatClampNeg 6) (Int32.toNatClampNeg 181)) else none else none := by
  refine (op_putR (pc' := 52) rfl rfl rfl).trans (op_bind fun n49 => op_ite ?_)
  refine (op_aload_n (pc' := 53) rfl rfl rfl).trans ?_
  refine (op_bipush (pc' := 55) rfl rfl k32_6).trans ?_
  refine (op_sipush (pc' := 58) rfl rfl k32_181).trans ?_
  refine (op_multianewarray (pc' := 62) rfl rfl).trans (op_ite ?_)
  rfl
theorem B_5_62 {d : Nat} {h : am_H} {a0 : Option Nat} {s0 : Option Nat} {s1 : Option Nat} : Ev (d + 4) 5 62 [vr a0] [vr s0, vr s1] h = (s1).bind fun n62 => if hkd h n62 = 4 then some (none, (setR h n62 7 s0)) else none := by
  refine (op_putR (pc' := 65) rfl rfl rfl).trans (op_bind fun n62 => op_ite ?_)
  exact op_return rfl rfl
/-! 6 DrumWorld$Image.<init>()V -/
theorem E_6 {d : Nat} {h : am_H} {a0 : Option Nat} : Cl d 6 [vr a0] h = Ev d 6 0 [vr a0] [] h := if_pos (Nat.le_of_ble_eq_true rfl)
theorem B_6_0 {d : Nat} {h : am_H} {a0 : Option Nat} : Ev (d + 4) 6 0 [vr a0] [] h = (a0).bind fun _ => if hk h < 900000 ∧ am_ix 2 4096 ∧ am_ix 5 4096 then Ev (d + 4) 6 11 [vr a0] [vr (some (hk h + 1)), vr a0] (newg h (Int32.toNatClampNeg 2) (Int32.toNatClampNeg 5)) else none := by
  refine (op_aload_n (pc' := 1) rfl rfl rfl).trans ?_
  refine (op_specialO (pc' := 4) (st' := []) rfl rfl rfl rfl rfl).trans (op_bind fun _ => ?_)
  refine (op_aload_n (pc' := 5) rfl rfl rfl).trans ?_
  refine (op_iconst (pc' := 6) rfl rfl k32_2).trans ?_
  refine (op_iconst (pc' := 7) rfl rfl k32_5).trans ?_
  refine (op_multianewarray (pc' := 11) rfl rfl).trans (op_ite ?_)
  rfl
theorem B_6_11 {d : Nat} {h : am_H} {a0 : Option Nat} {s0 : Option Nat} {s1 : Option Nat} : Ev (d + 4) 6 11 [vr a0] [vr s0, vr s1] h = (s1).bind fun n11 => if hkd h n11 = 5 then if hk (setR h n11 5 s0) < 900000 ∧ am_ix 8 4096 then Ev (d + 4) 6 19 [vr a0] [vr (some (hk (setR h n11 5 s0) + 1)), vr a0] (newc (setR h n11 5 s0) 100 (Int32.toNatClampNeg 8) (Int32.toNatClampNeg 8)) else none else none := by
  refine (op_putR (pc' := 14) rfl rfl rfl).trans (op_bind fun n11 => op_ite ?_)
  refine (op_aload_n (pc' := 15) rfl rfl rfl).trans ?_
  refine (op_bipush (pc' := 17) rfl rfl k32_8).trans ?_
  refine (op_newarray (pc' := 19) rfl rfl).trans (op_ite ?_)
  rfl
theorem B_6_19 {d : Nat} {h : am_H} {a0 : Option Nat} {s0 : Option Nat} {s1 : Option Nat} : Ev (d + 4) 6 19 [vr a0] [vr s0, vr s1] h = (s1).bind fun n19 => if hkd h n19 = 5 then if hk (setR h n19 6 s0) < 900000 ∧ am_ix 6 4096 then Ev (d + 4) 6 27 [vr a0] [vr (some (hk (setR h n19 6 s0) + 1)), vr a0] (newc (setR h n19 6 s0) 100 (Int32.toNatClampNeg 6) (Int32.toNatClampNeg 6)) else none else none := by
  refine (op_putR (pc' := 22) rfl rfl rfl).trans (op_bind fun n19 => op_ite ?_)
  refine (op_aload_n (pc' := 23) rfl rfl rfl).trans ?_
  refine (op_bipush (pc' := 25) rfl rfl k32_6).trans ?_
  refine (op_newarray (pc' := 27) rfl rfl).trans (op_ite ?_)
  rfl
theorem B_6_27 {d : Nat} {h : am_H} {a0 : Option Nat} {s0 : Option Nat} {s1 : Option Nat} : Ev (d + 4) 6 27 [vr a0] [vr s0, vr s1] h = (s1).bind fun n27 => if hkd h n27 = 5 then if hk (setR h n27 7 s0) < 900000 ∧ am_ix 6 4096 then Ev (d + 4) 6 35 [vr a0] [vr (some (hk (setR h n27 7 s0) + 1)), vr a0] (newc (setR h n27 7 s0) 100 (Int32.toNatClampNeg 6) (Int32.toNatClampNeg 6)) else none else none := by
  refine (op_putR (pc' := 30) rfl rfl rfl).trans (op_bind fun n27 => op_ite ?_)
  refine (op_aload_n (pc' := 31) rfl rfl rfl).trans ?_
  refine (op_bipush (pc' := 33) rfl rfl k32_6).trans ?_
  refine (op_newarray (pc' := 35) rfl rfl).trans (op_ite ?_)
  rfl
theorem B_6_35 {d : Nat} {h : am_H} {a0 : Option Nat} {s0 : Option Nat} {s1 : Option Nat} : Ev (d + 4) 6 35 [vr a0] [vr s0, vr s1] h = (s1).bind fun n35 => if hkd h n35 = 5 then if hk (setR h n35 8 s0) < 900000 ∧ am_ix 6 4096 then Ev (d + 4) 6 43 [vr a0] [vr (some (hk (setR h n35 8 s0) + 1)), vr a0] (newc (setR h n35 8 s0) 100 (Int32.toNatClampNeg 6) (Int32.toNatClampNeg 6)) else none else none := by
  refine (op_putR (pc' := 38) rfl rfl rfl).trans (op_bind fun n35 => op_ite ?_)
  refine (op_aload_n (pc' := 39) rfl rfl rfl).trans ?_
  refine (op_bipush (pc' := 41) rfl rfl k32_6).trans ?_
  refine (op_newarray (pc' := 43) rfl rfl).trans (op_ite ?_)
  rfl
theorem B_6_43 {d : Nat} {h : am_H} {a0 : Option Nat} {s0 : Option Nat} {s1 : Option Nat} : Ev (d + 4) 6 43 [vr a0] [vr s0, vr s1] h = (s1).bind fun n43 => if hkd h n43 = 5 then if hk (setR h n43 9 s0) < 900000 ∧ am_ix 40 4096 then Ev (d + 4) 6 51 [vr a0] [vr (some (hk (setR h n43 9 s0) + 1)), vr a0] (newc (setR h n43 9 s0) 101 (Int32.toNatClampNeg 40) (Int32.toNatClampNeg 40)) else none else none := by
  refine (op_putR (pc' := 46) rfl rfl rfl).trans (op_bind fun n43 => op_ite ?_)
  refine (op_aload_n (pc' := 47) rfl rfl rfl).trans ?_
  refine (op_bipush (pc' := 49) rfl rfl k32_40).trans ?_
  refine (op_newarray (pc' := 51) rfl rfl).trans (op_ite ?_)
  rfl
theorem B_6_51 {d : Nat} {h : am_H} {a0 : Option Nat} {s0 : Option Nat} {s1 : Option Nat} : Ev (d + 4) 6 51 [vr a0] [vr s0, vr s1] h = (s1).bind fun n51 => if hkd h n51 = 5 then some (none, (setR h n51 10 s0)) else none := by
  refine (op_putR (pc' := 54) rfl rfl rfl).trans (op_bind fun n51 => op_ite ?_)
  exact op_return rfl rfl
/-! 7 DrumWorld$Sheet.<init>()V -/
theorem E_7 {d : Nat} {h : am_H} {a0 : Option Nat} : Cl d 7 [vr a0] h = Ev d 7 0 [vr a0] [] h := if_pos (Nat.le_of_ble_eq_true rfl)
theorem B_7_0 {d : Nat} {h : am_H} {a0 : Option Nat} : Ev (d + 4) 7 0 [vr a0] [] h = (a0).bind fun _ => if hk h < 900000 ∧ am_ix 40 4096 then Ev (d + 4) 7 9 [vr a0] [vr (some (hk h + 1)), vr a0] (newc h 100 (Int32.toNatClampNeg 40) (Int32.toNatClampNeg 40)) else none := by
  refine (op_aload_n (pc' := 1) rfl rfl rfl).trans ?_
  refine (op_specialO (pc' := 4) (st' := []) rfl rfl rfl rfl rfl).trans (op_bind fun _ => ?_)
  refine (op_aload_n (pc' := 5) rfl rfl rfl).trans ?_
  refine (op_bipush (pc' := 7) rfl rfl k32_40).trans ?_
  refine (op_newarray (pc' := 9) rfl rfl).trans (op_ite ?_)
  rfl
theorem B_7_9 {d : Nat} {h : am_H} {a0 : Option Nat} {s0 : Option Nat} {s1 : Option Nat} : Ev (d + 4) 7 9 [vr a0] [vr s0, vr s1] h = (s1).bind fun n9 => if hkd h n9 = 6 then (a0).bind fun n14 => if hkd (setR h n9 0 s0) n14 = 6 then Ev (d + 4) 7 17 [vr a0] [] (setI (setR h n9 0 s0) n14 1 (-1)) else none else none := by
  refine (op_putR (pc' := 12) rfl rfl rfl).trans (op_bind fun n9 => op_ite ?_)
  refine (op_aload_n (pc' := 13) rfl rfl rfl).trans ?_
  refine (op_iconst (pc' := 14) rfl rfl k32_m1).trans ?_
  refine (op_putI (pc' := 17) rfl rfl rfl).trans (op_bind fun n14 => op_ite ?_)
  rfl
theorem B_7_17 {d : Nat} {h : am_H} {a0 : Option Nat} : Ev (d + 4) 7 17 [vr a0] [] h = some (none, h) := by
  exact op_return rfl rfl
/-! 8 DrumWorld$Tape.appendAll(Ljava/lang/String;)V -/
theorem E_8 {d : Nat} {h : am_H} {a0 : Option Nat} {a1 : Option Nat} : Cl d 8 [vr a0, vr a1] h = Ev d 8 0 [vr a0, vr a1, vu] [] h := if_pos (Nat.le_of_ble_eq_true rfl)
theorem B_8_0 {d : Nat} {h : am_H} {a0 : Option Nat} {a1 : Option Nat} : Ev (d + 4) 8 0 [vr a0, vr a1, vu] [] h = Ev (d + 4) 8 2 [vr a0, vr a1, vi 0] [] h := by
  refine (op_iconst (pc' := 1) rfl rfl k32_0).trans ?_
  refine (op_istore_n (pc' := 2) (ls' := [vr a0, vr a1, vi 0]) rfl rfl rfl rfl).trans ?_
  rfl
theorem B_8_2 {d : Nat} {h : am_H} {a0 : Option Nat} {a1 : Option Nat} {a2 : Int32} : Ev (d + 4) 8 2 [vr a0, vr a1, vi a2] [] h = (a1).bind fun n4 => if hkd h n4 = 902 then (Cl (d + 3) 219 [vr a1] h).bind fun x => Ev (d + 4) 8 7 [vr a0, vr a1, vi a2] (x.1.toList ++ [vi a2]) x.2 else none := by
  refine (op_iload_n (pc' := 3) rfl rfl rfl).trans ?_
  refine (op_aload_n (pc' := 4) rfl rfl rfl).trans ?_
  exact op_virtual (pc' := 7) (m := 902) rfl rfl rfl rfl rfl rfl rfl rfl
theorem B_8_7 {d : Nat} {h : am_H} {a0 : Option Nat} {a1 : Option Nat} {a2 : Int32} {s0 : Int32} {s1 : Int32} : Ev (d + 4) 8 7 [vr a0, vr a1, vi a2] [vi s0, vi s1] h = if s0 ≤ s1 then Ev (d + 4) 8 47 [vr a0, vr a1, vi a2] [] h else Ev (d + 4) 8 10 [vr a0, vr a1, vi a2] [] h := by
  exact op_icmpge (pc' := 10) rfl rfl
theorem B_8_10 {d : Nat} {h : am_H} {a0 : Option Nat} {a1 : Option Nat} {a2 : Int32} : Ev (d + 4) 8 10 [vr a0, vr a1, vi a2] [] h = (a0).bind fun n11 => if hkd h n11 = 3 then if 160 ≤ (hI h n11 1) then Ev (d + 4) 8 47 [vr a0, vr a1, vi a2] [] h else Ev (d + 4) 8 20 [vr a0, vr a1, vi a2] [] h else none := by
  refine (op_aload_n (pc' := 11) rfl rfl rfl).trans ?_
  refine (op_getI (pc' := 14) rfl rfl (by decide) (Or.inl rfl)).trans (op_bind fun n11 => op_ite ?_)
  refine (op_sipush (pc' := 17) rfl rfl k32_160).trans ?_
  exact op_icmpge (pc' := 20) rfl rfl
theorem B_8_20 {d : Nat} {h : am_H} {a0 : Option Nat} {a1 : Option Nat} {a2 : Int32} : Ev (d + 4) 8 20 [vr a0, vr a1, vi a2] [] h = (a0).bind fun n21 => if hkd h n21 = 3 then (a0).bind fun n26 => if hkd h n26 = 3 then (a0).bind fun n32 => if hkd h n32 = 3 then (a1).bind fun n37 => if hkd (setI h n32 1 ((hI h n26 1) + 1)) n37 = 902 then (Cl (d + 3) 221 [vr a1, vi a2] (setI h n32 1 ((hI h n26 1) + 1))).bind fun x => Ev (d + 4) 8 40 [vr a0, vr a1, vi a2] (x.1.toList ++ [vi (hI h n26 1), vr (hR h n21 0)]) x.2 else none else none else none else none := by
  refine (op_aload_n (pc' := 21) rfl rfl rfl).trans ?_
  refine (op_getR (pc' := 24) rfl rfl (by decide) rfl).trans (op_bind fun n21 => op_ite ?_)
  refine (op_aload_n (pc' := 25) rfl rfl rfl).trans ?_
  refine (op_dup (pc' := 26) rfl rfl rfl).trans ?_
  refine (op_getI (pc' := 29) rfl rfl (by decide) (Or.inl rfl)).trans (op_bind fun n26 => op_ite ?_)
  refine (op_dup_x1 (pc' := 30) rfl rfl rfl rfl).trans ?_
  refine (op_iconst (pc' := 31) rfl rfl k32_1).trans ?_
  refine (op_iadd (pc' := 32) rfl rfl).trans ?_
  refine (op_putI (pc' := 35) rfl rfl rfl).trans (op_bind fun n32 => op_ite ?_)
  refine (op_aload_n (pc' := 36) rfl rfl rfl).trans ?_
  refine (op_iload_n (pc' := 37) rfl rfl rfl).trans ?_
  exact op_virtual (pc' := 40) (m := 902) rfl rfl rfl rfl rfl rfl rfl rfl
theorem B_8_40 {d : Nat} {h : am_H} {a0 : Option Nat} {a1 : Option Nat} {a2 : Int32} {s0 : Int32} {s1 : Int32} {s2 : Option Nat} : Ev (d + 4) 8 40 [vr a0, vr a1, vi a2] [vi s0, vi s1, vr s2] h = (s2).bind fun n40 => if hkd h n40 = 100 ∧ am_ix s1 (hln h n40) then Ev (d + 4) 8 2 [vr a0, vr a1, vi (a2 + 1)] [] (setI h n40 (Int32.toNatClampNeg s1) s0) else none := by
  refine (op_iastore (pc' := 41) rfl rfl).trans (op_bind fun n40 => op_ite ?_)
  refine (op_iinc (pc' := 44) (ls' := [vr a0, vr a1, vi (a2 + 1)]) rfl rfl rfl k32_1 rfl).trans ?_
  refine (op_goto rfl).trans ?_
  rfl
theorem B_8_47 {d : Nat} {h : am_H} {a0 : Option Nat} {a1 : Option Nat} {a2 : Int32} : Ev (d + 4) 8 47 [vr a0, vr a1, vi a2] [] h = some (none, h) := by
  exact op_return rfl rfl
/-! 9 DrumWorld$Reader.readText()LDrumWorld$Text; -/
theorem E_9 {d : Nat} {h : am_H} {a0 : Option Nat} : Cl d 9 [vr a0] h = Ev d 9 0 [vr a0, vu] [] h := if_pos (Nat.le_of_ble_eq_true rfl)
theorem B_9_0 {d : Nat} {h : am_H} {a0 : Option Nat} : Ev (d + 4) 9 0 [vr a0, vu] [] h = (a0).bind fun n1 => if hkd h n1 = 2 then ((hR h n1 0)).bind fun n4 => if hkd h n4 = 3 then (Cl (d + 3) 10 [vr (hR h n1 0)] h).bind fun x => Ev (d + 4) 9 7 [vr a0, vu] (x.1.toList ++ []) x.2 else none else none := by
  refine (op_aload_n (pc' := 1) rfl rfl rfl).trans ?_
  refine (op_getR (pc' := 4) rfl rfl (by decide) rfl).trans (op_bind fun n1 => op_ite ?_)
  exact op_virtual (pc' := 7) (m := 3) rfl rfl rfl rfl rfl rfl rfl rfl
theorem B_9_7 {d : Nat} {h : am_H} {a0 : Option Nat} : Ev (d + 4) 9 7 [vr a0, vu] [] h = (a0).bind fun n9 => if hkd h n9 = 2 then (a0).bind fun n14 => if hkd (setI h n9 1 0) n14 = 2 then Ev (d + 4) 9 17 [vr a0, vu] [] (setI (setI h n9 1 0) n14 3 0) else none else none := by
  refine (op_aload_n (pc' := 8) rfl rfl rfl).trans ?_
  refine (op_iconst (pc' := 9) rfl rfl k32_0).trans ?_
  refine (op_putI (pc' := 12) rfl rfl rfl).trans (op_bind fun n9 => op_ite ?_)
  refine (op_aload_n (pc' := 13) rfl rfl rfl).trans ?_
  refine (op_iconst (pc' := 14) rfl rfl k32_0).trans ?_
  refine (op_putI (pc' := 17) rfl rfl rfl).trans (op_bind fun n14 => op_ite ?_)
  rfl
theorem B_9_17 {d : Nat} {h : am_H} {a0 : Option Nat} : Ev (d + 4) 9 17 [vr a0, vu] [] h = (a0).bind fun n21 => if hkd h n21 = 2 then (Cl (d + 3) 20 [vr a0, vi 128] h).bind fun x => Ev (d + 4) 9 24 [vr a0, vu] (x.1.toList ++ []) x.2 else none := by
  refine (op_aload_n (pc' := 18) rfl rfl rfl).trans ?_
  refine (op_sipush (pc' := 21) rfl rfl k32_128).trans ?_
  exact op_virtual (pc' := 24) (m := 2) rfl rfl rfl rfl rfl rfl rfl rfl
theorem B_9_24 {d : Nat} {h : am_H} {a0 : Option Nat} {s0 : Int32} : Ev (d + 4) 9 24 [vr a0, vu] [vi s0] h = if s0 ≠ 0 then Ev (d + 4) 9 29 [vr a0, vu] [] h else Ev (d + 4) 9 27 [vr a0, vu] [] h := by
  exact op_ifne (pc' := 27) rfl rfl
theorem B_9_27 {d : Nat} {h : am_H} {a0 : Option Nat} : Ev (d + 4) 9 27 [vr a0, vu] [] h = some (some (vr none), h) := by
  refine (op_null (pc' := 28) rfl rfl).trans ?_
  exact op_areturn rfl rfl
theorem B_9_29 {d : Nat} {h : am_H} {a0 : Option Nat} : Ev (d + 4) 9 29 [vr a0, vu] [] h = (a0).bind fun n30 => if hkd h n30 = 2 then (a0).bind fun n38 => if hkd h n38 = 2 then (Cl (d + 3) 20 [vr a0, vi 129] h).bind fun x => Ev (d + 4) 9 41 [vr a0, vi (hI h n30 3)] (x.1.toList ++ []) x.2 else none else none := by
  refine (op_aload_n (pc' := 30) rfl rfl rfl).trans ?_
  refine (op_getI (pc' := 33) rfl rfl (by decide) (Or.inl rfl)).trans (op_bind fun n30 => op_ite ?_)
  refine (op_istore_n (pc' := 34) (ls' := [vr a0, vi (hI h n30 3)]) rfl rfl rfl rfl).trans ?_
  refine (op_aload_n (pc' := 35) rfl rfl rfl).trans ?_
  refine (op_sipush (pc' := 38) rfl rfl k32_129).trans ?_
  exact op_virtual (pc' := 41) (m := 2) rfl rfl rfl rfl rfl rfl rfl rfl
theorem B_9_41 {d : Nat} {h : am_H} {a0 : Option Nat} {a1 : Int32} {s0 : Int32} : Ev (d + 4) 9 41 [vr a0, vi a1] [vi s0] h = if s0 = 0 then Ev (d + 4) 9 59 [vr a0, vi a1] [] h else Ev (d + 4) 9 44 [vr a0, vi a1] [] h := by
  exact op_ifeq (pc' := 44) rfl rfl
theorem B_9_44 {d : Nat} {h : am_H} {a0 : Option Nat} {a1 : Int32} : Ev (d + 4) 9 44 [vr a0, vi a1] [] h = (a0).bind fun n45 => if hkd h n45 = 2 then ((hR h n45 0)).bind fun n48 => if hkd h n48 = 3 then (a0).bind fun n52 => if hkd h n52 = 2 then ((hR h n48 2)).bind fun n55 => if (hkd h n55 = 100 ∨ hkd h n55 = 901) ∧ am_ix (hI h n52 1) (hln h n55) then if (hI h n55 (Int32.toNatClampNeg (hI h n52 1))) = 0 then Ev (d + 4) 9 61 [vr a0, vi a1] [] h else Ev (d + 4) 9 59 [vr a0, vi a1] [] h else none else none else none else none := by
  refine (op_aload_n (pc' := 45) rfl rfl rfl).trans ?_
  refine (op_getR (pc' := 48) rfl rfl (by decide) rfl).trans (op_bind fun n45 => op_ite ?_)
  refine (op_getR (pc' := 51) rfl rfl (by decide) rfl).trans (op_bind fun n48 => op_ite ?_)
  refine (op_aload_n (pc' := 52) rfl rfl rfl).trans ?_
  refine (op_getI (pc' := 55) rfl rfl (by decide) (Or.inl rfl)).trans (op_bind fun n52 => op_ite ?_)
  refine (op_iaload (pc' := 56) rfl rfl).trans (op_bind fun n55 => op_ite ?_)
  exact op_ifeq (pc' := 59) rfl rfl
theorem B_9_59 {d : Nat} {h : am_H} {a0 : Option Nat} {a1 : Int32} : Ev (d + 4) 9 59 [vr a0, vi a1] [] h = some (some (vr none), h) := by
  refine (op_null (pc' := 60) rfl rfl).trans ?_
  exact op_areturn rfl rfl
theorem B_9_61 {d : Nat} {h : am_H} {a0 : Option Nat} {a1 : Int32} : Ev (d + 4) 9 61 [vr a0, vi a1] [] h = if hk h < 900000 then Ev (d + 4) 9 64 [vr a0, vi a1] [vr (some (hk h + 1))] (newc h 7 0 4) else none := by
  refine (op_new (pc' := 64) (k := 4) rfl rfl rfl).trans (op_ite ?_)
  rfl
theorem B_9_64 {d : Nat} {h : am_H} {a0 : Option Nat} {a1 : Int32} {s0 : Option Nat} : Ev (d + 4) 9 64 [vr a0, vi a1] [vr s0] h = (a0).bind fun n66 => if hkd h n66 = 2 then (a0).bind fun n70 => if hkd h n70 = 2 then (s0).bind fun _ => (Cl (d + 3) 31 [vr s0, vr (hR h n66 2), vi (hI h n70 3), vi a1] h).bind fun x => Ev (d + 4) 9 77 [vr a0, vi a1] (x.1.toList ++ [vr s0]) x.2 else none else none := by
  refine (op_dup (pc' := 65) rfl rfl rfl).trans ?_
  refine (op_aload_n (pc' := 66) rfl rfl rfl).trans ?_
  refine (op_getR (pc' := 69) rfl rfl (by decide) rfl).trans (op_bind fun n66 => op_ite ?_)
  refine (op_aload_n (pc' := 70) rfl rfl rfl).trans ?_
  refine (op_getI (pc' := 73) rfl rfl (by decide) (Or.inl rfl)).trans (op_bind fun n70 => op_ite ?_)
  refine (op_iload_n (pc' := 74) rfl rfl rfl).trans ?_
  exact op_special (pc' := 77) rfl rfl rfl rfl rfl rfl rfl
theorem B_9_77 {d : Nat} {h : am_H} {a0 : Option Nat} {a1 : Int32} {s0 : Option Nat} : Ev (d + 4) 9 77 [vr a0, vi a1] [vr s0] h = some (some (vr s0), h) := by
  exact op_areturn rfl rfl
/-! 10 DrumWorld$Tape.split()V -/
theorem E_10 {d : Nat} {h : am_H} {a0 : Option Nat} : Cl d 10 [vr a0] h = Ev d 10 0 [vr a0, vu, vu, vu, vu] [] h := if_pos (Nat.le_of_ble_eq_true rfl)
theorem B_10_0 {d : Nat} {h : am_H} {a0 : Option Nat} : Ev (d + 4) 10 0 [vr a0, vu, vu, vu, vu] [] h = (a0).bind fun n4 => if hkd h n4 = 3 then (Cl (d + 3) 11 [vr a0, vi 0] h).bind fun x => Ev (d + 4) 10 7 [vr a0, vi 0, vu, vu, vu] (x.1.toList ++ []) x.2 else none := by
  refine (op_iconst (pc' := 1) rfl rfl k32_0).trans ?_
  refine (op_istore_n (pc' := 2) (ls' := [vr a0, vi 0, vu, vu, vu]) rfl rfl rfl rfl).trans ?_
  refine (op_aload_n (pc' := 3) rfl rfl rfl).trans ?_
  refine (op_iconst (pc' := 4) rfl rfl k32_0).trans ?_
  exact op_virtual (pc' := 7) (m := 3) rfl rfl rfl rfl rfl rfl rfl rfl
theorem B_10_7 {d : Nat} {h : am_H} {a0 : Option Nat} {a1 : Int32} {s0 : Int32} : Ev (d + 4) 10 7 [vr a0, vi a1, vu, vu, vu] [vi s0] h = Ev (d + 4) 10 10 [vr a0, vi a1, vi s0, vi 0, vu] [] h := by
  refine (op_istore_n (pc' := 8) (ls' := [vr a0, vi a1, vi s0, vu, vu]) rfl rfl rfl rfl).trans ?_
  refine (op_iconst (pc' := 9) rfl rfl k32_0).trans ?_
  refine (op_istore_n (pc' := 10) (ls' := [vr a0, vi a1, vi s0, vi 0, vu]) rfl rfl rfl rfl).trans ?_
  rfl
theorem B_10_10 {d : Nat} {h : am_H} {a0 : Option Nat} {a1 : Int32} {a2 : Int32} {a3 : Int32} {a4 : am_V} : Ev (d + 4) 10 10 [vr a0, vi a1, vi a2, vi a3, a4] [] h = if 160 ≤ a3 then Ev (d + 4) 10 97 [vr a0, vi a1, vi a2, vi a3, a4] [] h else Ev (d + 4) 10 17 [vr a0, vi a1, vi a2, vi a3, a4] [] h := by
  refine (op_iload_n (pc' := 11) rfl rfl rfl).trans ?_
  refine (op_sipush (pc' := 14) rfl rfl k32_160).trans ?_
  exact op_icmpge (pc' := 17) rfl rfl
theorem B_10_17 {d : Nat} {h : am_H} {a0 : Option Nat} {a1 : Int32} {a2 : Int32} {a3 : Int32} {a4 : am_V} : Ev (d + 4) 10 17 [vr a0, vi a1, vi a2, vi a3, a4] [] h = (a0).bind fun n19 => if hkd h n19 = 3 then if (hI h n19 1) ≤ a2 then Ev (d + 4) 10 97 [vr a0, vi a1, vi a2, vi a3, a4] [] h else Ev (d + 4) 10 25 [vr a0, vi a1, vi a2, vi a3, a4] [] h else none := by
  refine (op_iload_n (pc' := 18) rfl rfl rfl).trans ?_
  refine (op_aload_n (pc' := 19) rfl rfl rfl).trans ?_
  refine (op_getI (pc' := 22) rfl rfl (by decide) (Or.inl rfl)).trans (op_bind fun n19 => op_ite ?_)
  exact op_icmpge (pc' := 25) rfl rfl
theorem B_10_25 {d : Nat} {h : am_H} {a0 : Option Nat} {a1 : Int32} {a2 : Int32} {a3 : Int32} {a4 : am_V} : Ev (d + 4) 10 25 [vr a0, vi a1, vi a2, vi a3, a4] [] h = (a0).bind fun n27 => if hkd h n27 = 3 then (Cl (d + 3) 12 [vr a0, vi a2] h).bind fun x => Ev (d + 4) 10 30 [vr a0, vi a1, vi a2, vi a3, a4] (x.1.toList ++ []) x.2 else none := by
  refine (op_aload_n (pc' := 26) rfl rfl rfl).trans ?_
  refine (op_iload_n (pc' := 27) rfl rfl rfl).trans ?_
  exact op_virtual (pc' := 30) (m := 3) rfl rfl rfl rfl rfl rfl rfl rfl
theorem B_10_30 {d : Nat} {h : am_H} {a0 : Option Nat} {a1 : Int32} {a2 : Int32} {a3 : Int32} {a4 : am_V} {s0 : Int32} : Ev (d + 4) 10 30 [vr a0, vi a1, vi a2, vi a3, a4] [vi s0] h = (a0).bind fun n33 => if hkd h n33 = 3 then ((hR h n33 3)).bind fun n38 => if hkd h n38 = 100 ∧ am_ix a1 (hln h n38) then (a0).bind fun n40 => if hkd (setI h n38 (Int32.toNatClampNeg a1) a2) n40 = 3 then (a0).bind fun n45 => if hkd (setI h n38 (Int32.toNatClampNeg a1) a2) n45 = 3 then ((hR (setI h n38 (Int32.toNatClampNeg a1) a2) n45 0)).bind fun n49 => if (hkd (setI h n38 (Int32.toNatClampNeg a1) a2) n49 = 100 ∨ hkd (setI h n38 (Int32.toNatClampNeg a1) a2) n49 = 901) ∧ am_ix a2 (hln (setI h n38 (Int32.toNatClampNeg a1) a2) n49) then (Cl (d + 3) 14 [vi (hI (setI h n38 (Int32.toNatClampNeg a1) a2) n49 (Int32.toNatClampNeg a2))] (setI h n38 (Int32.toNatClampNeg a1) a2)).bind fun x => Ev (d + 4) 10 53 [vr a0, vi a1, vi a2, vi a3, vi s0] (x.1.toList ++ [vi a1, vr (hR (setI h n38 (Int32.toNatClampNeg a1) a2) n40 4)]) x.2 else none else none else none else none else none := by
  refine (op_istore (pc' := 32) (ls' := [vr a0, vi a1, vi a2, vi a3, vi s0]) rfl rfl rfl rfl).trans ?_
  refine (op_aload_n (pc' := 33) rfl rfl rfl).trans ?_
  refine (op_getR (pc' := 36) rfl rfl (by decide) rfl).trans (op_bind fun n33 => op_ite ?_)
  refine (op_iload_n (pc' := 37) rfl rfl rfl).trans ?_
  refine (op_iload_n (pc' := 38) rfl rfl rfl).trans ?_
  refine (op_iastore (pc' := 39) rfl rfl).trans (op_bind fun n38 => op_ite ?_)
  refine (op_aload_n (pc' := 40) rfl rfl rfl).trans ?_
  refine (op_getR (pc' := 43) rfl rfl (by decide) rfl).trans (op_bind fun n40 => op_ite ?_)
  refine (op_iload_n (pc' := 44) rfl rfl rfl).trans ?_
  refine (op_aload_n (pc' := 45) rfl rfl rfl).trans ?_
  refine (op_getR (pc' := 48) rfl rfl (by decide) rfl).trans (op_bind fun n45 => op_ite ?_)
  refine (op_iload_n (pc' := 49) rfl rfl rfl).trans ?_
  refine (op_iaload (pc' := 50) rfl rfl).trans (op_bind fun n49 => op_ite ?_)
  exact op_static (pc' := 53) rfl rfl rfl rfl rfl rfl
theorem B_10_53 {d : Nat} {h : am_H} {a0 : Option Nat} {a1 : Int32} {a2 : Int32} {a3 : Int32} {a4 : Int32} {s0 : Int32} {s1 : Int32} {s2 : Option Nat} : Ev (d + 4) 10 53 [vr a0, vi a1, vi a2, vi a3, vi a4] [vi s0, vi s1, vr s2] h = if s0 = 0 then Ev (d + 4) 10 66 [vr a0, vi a1, vi a2, vi a3, vi a4] [vi s1, vr s2] h else Ev (d + 4) 10 56 [vr a0, vi a1, vi a2, vi a3, vi a4] [vi s1, vr s2] h := by
  exact op_ifeq (pc' := 56) rfl rfl
theorem B_10_56 {d : Nat} {h : am_H} {a0 : Option Nat} {a1 : Int32} {a2 : Int32} {a3 : Int32} {a4 : Int32} {s0 : Int32} {s1 : Option Nat} : Ev (d + 4) 10 56 [vr a0, vi a1, vi a2, vi a3, vi a4] [vi s0, vr s1] h = (a0).bind fun n60 => if hkd h n60 = 3 then (Cl (d + 3) 15 [vr a0, vi a2, vi a4] h).bind fun x => Ev (d + 4) 10 63 [vr a0, vi a1, vi a2, vi a3, vi a4] (x.1.toList ++ [vi s0, vr s1]) x.2 else none := by
  refine (op_aload_n (pc' := 57) rfl rfl rfl).trans ?_
  refine (op_iload_n (pc' := 58) rfl rfl rfl).trans ?_
  refine (op_iload (pc' := 60) rfl rfl rfl).trans ?_
  exact op_virtual (pc' := 63) (m := 3) rfl rfl rfl rfl rfl rfl rfl rfl
theorem B_10_63 {d : Nat} {h : am_H} {a0 : Option Nat} {a1 : Int32} {a2 : Int32} {a3 : Int32} {a4 : Int32} {s0 : Int32} {s1 : Int32} {s2 : Option Nat} : Ev (d + 4) 10 63 [vr a0, vi a1, vi a2, vi a3, vi a4] [vi s0, vi s1, vr s2] h = Ev (d + 4) 10 67 [vr a0, vi a1, vi a2, vi a3, vi a4] [vi s0, vi s1, vr s2] h := by
  refine (op_goto rfl).trans ?_
  rfl
theorem B_10_66 {d : Nat} {h : am_H} {a0 : Option Nat} {a1 : Int32} {a2 : Int32} {a3 : Int32} {a4 : Int32} {s0 : Int32} {s1 : Option Nat} : Ev (d + 4) 10 66 [vr a0, vi a1, vi a2, vi a3, vi a4] [vi s0, vr s1] h = Ev (d + 4) 10 67 [vr a0, vi a1, vi a2, vi a3, vi a4] [vi 0, vi s0, vr s1] h := by
  refine (op_iconst (pc' := 67) rfl rfl k32_0).trans ?_
  rfl
theorem B_10_67 {d : Nat} {h : am_H} {a0 : Option Nat} {a1 : Int32} {a2 : Int32} {a3 : Int32} {a4 : Int32} {s0 : Int32} {s1 : Int32} {s2 : Option Nat} : Ev (d + 4) 10 67 [vr a0, vi a1, vi a2, vi a3, vi a4] [vi s0, vi s1, vr s2] h = (s2).bind fun n67 => if hkd h n67 = 100 ∧ am_ix s1 (hln h n67) then (a0).bind fun n69 => if hkd (setI h n67 (Int32.toNatClampNeg s1) s0) n69 = 3 then (a0).bind fun n80 => if hkd (setI h n67 (Int32.toNatClampNeg s1) s0) n80 = 3 then (Cl (d + 3) 16 [vr a0, vi a2, vi a4] (setI h n67 (Int32.toNatClampNeg s1) s0)).bind fun x => Ev (d + 4) 10 83 [vr a0, vi (a1 + 1), vi a2, vi a3, vi a4] (x.1.toList ++ [vi a1, vr (hR (setI h n67 (Int32.toNatClampNeg s1) s0) n69 2)]) x.2 else none else none else none := by
  refine (op_iastore (pc' := 68) rfl rfl).trans (op_bind fun n67 => op_ite ?_)
  refine (op_aload_n (pc' := 69) rfl rfl rfl).trans ?_
  refine (op_getR (pc' := 72) rfl rfl (by decide) rfl).trans (op_bind fun n69 => op_ite ?_)
  refine (op_iload_n (pc' := 73) rfl rfl rfl).trans ?_
  refine (op_iinc (pc' := 76) (ls' := [vr a0, vi (a1 + 1), vi a2, vi a3, vi a4]) rfl rfl rfl k32_1 rfl).trans ?_
  refine (op_aload_n (pc' := 77) rfl rfl rfl).trans ?_
  refine (op_iload_n (pc' := 78) rfl rfl rfl).trans ?_
  refine (op_iload (pc' := 80) rfl rfl rfl).trans ?_
  exact op_virtual (pc' := 83) (m := 3) rfl rfl rfl rfl rfl rfl rfl rfl
theorem B_10_83 {d : Nat} {h : am_H} {a0 : Option Nat} {a1 : Int32} {a2 : Int32} {a3 : Int32} {a4 : Int32} {s0 : Int32} {s1 : Int32} {s2 : Option Nat} : Ev (d + 4) 10 83 [vr a0, vi a1, vi a2, vi a3, vi a4] [vi s0, vi s1, vr s2] h = (s2).bind fun n83 => if hkd h n83 = 100 ∧ am_ix s1 (hln h n83) then (a0).bind fun n87 => if hkd (setI h n83 (Int32.toNatClampNeg s1) s0) n87 = 3 then (Cl (d + 3) 11 [vr a0, vi a4] (setI h n83 (Int32.toNatClampNeg s1) s0)).bind fun x => Ev (d + 4) 10 90 [vr a0, vi a1, vi a2, vi a3, vi a4] (x.1.toList ++ []) x.2 else none else none := by
  refine (op_iastore (pc' := 84) rfl rfl).trans (op_bind fun n83 => op_ite ?_)
  refine (op_aload_n (pc' := 85) rfl rfl rfl).trans ?_
  refine (op_iload (pc' := 87) rfl rfl rfl).trans ?_
  exact op_virtual (pc' := 90) (m := 3) rfl rfl rfl rfl rfl rfl rfl rfl
theorem B_10_90 {d : Nat} {h : am_H} {a0 : Option Nat} {a1 : Int32} {a2 : Int32} {a3 : Int32} {a4 : Int32} {s0 : Int32} : Ev (d + 4) 10 90 [vr a0, vi a1, vi a2, vi a3, vi a4] [vi s0] h = Ev (d + 4) 10 10 [vr a0, vi a1, vi s0, vi (a3 + 1), vi a4] [] h := by
  refine (op_istore_n (pc' := 91) (ls' := [vr a0, vi a1, vi s0, vi a3, vi a4]) rfl rfl rfl rfl).trans ?_
  refine (op_iinc (pc' := 94) (ls' := [vr a0, vi a1, vi s0, vi (a3 + 1), vi a4]) rfl rfl rfl k32_1 rfl).trans ?_
  refine (op_goto rfl).trans ?_
  rfl
theorem B_10_97 {d : Nat} {h : am_H} {a0 : Option Nat} {a1 : Int32} {a2 : Int32} {a3 : Int32} {a4 : am_V} : Ev (d + 4) 10 97 [vr a0, vi a1, vi a2, vi a3, a4] [] h = (a0).bind fun n98 => if hkd h n98 = 3 then (a0).bind fun n103 => if hkd h n103 = 3 then ((hR h n98 3)).bind fun n106 => if hkd h n106 = 100 ∧ am_ix a1 (hln h n106) then (a0).bind fun n108 => if hkd (setI h n106 (Int32.toNatClampNeg a1) (hI h n103 1)) n108 = 3 then ((hR (setI h n106 (Int32.toNatClampNeg a1) (hI h n103 1)) n108 2)).bind fun n113 => if hkd (setI h n106 (Int32.toNatClampNeg a1) (hI h n103 1)) n113 = 100 ∧ am_ix a1 (hln (setI h n106 (Int32.toNatClampNeg a1) (hI h n103 1)) n113) then Ev (d + 4) 10 114 [vr a0, vi a1, vi a2, vi a3, a4] [] (setI (setI h n106 (Int32.toNatClampNeg a1) (hI h n103 1)) n113 (Int32.toNatClampNeg a1) 0) else none else none else none else none else none := by
  refine (op_aload_n (pc' := 98) rfl rfl rfl).trans ?_
  refine (op_getR (pc' := 101) rfl rfl (by decide) rfl).trans (op_bind fun n98 => op_ite ?_)
  refine (op_iload_n (pc' := 102) rfl rfl rfl).trans ?_
  refine (op_aload_n (pc' := 103) rfl rfl rfl).trans ?_
  refine (op_getI (pc' := 106) rfl rfl (by decide) (Or.inl rfl)).trans (op_bind fun n103 => op_ite ?_)
  refine (op_iastore (pc' := 107) rfl rfl).trans (op_bind fun n106 => op_ite ?_)
  refine (op_aload_n (pc' := 108) rfl rfl rfl).trans ?_
  refine (op_getR (pc' := 111) rfl rfl (by decide) rfl).trans (op_bind fun n108 => op_ite ?_)
  refine (op_iload_n (pc' := 112) rfl rfl rfl).trans ?_
  refine (op_iconst (pc' := 113) rfl rfl k32_0).trans ?_
  refine (op_iastore (pc' := 114) rfl rfl).trans (op_bind fun n113 => op_ite ?_)
  rfl
theorem B_10_114 {d : Nat} {h : am_H} {a0 : Option Nat} {a1 : Int32} {a2 : Int32} {a3 : Int32} {a4 : am_V} : Ev (d + 4) 10 114 [vr a0, vi a1, vi a2, vi a3, a4] [] h = some (none, h) := by
  exact op_return rfl rfl
/-! 11 DrumWorld$Tape.pastBlanks(I)I -/
theorem E_11 {d : Nat} {h : am_H} {a0 : Option Nat} {a1 : Int32} : Cl d 11 [vr a0, vi a1] h = Ev d 11 0 [vr a0, vi a1, vu] [] h := if_pos (Nat.le_of_ble_eq_true rfl)
theorem B_11_0 {d : Nat} {h : am_H} {a0 : Option Nat} {a1 : Int32} : Ev (d + 4) 11 0 [vr a0, vi a1, vu] [] h = Ev (d + 4) 11 2 [vr a0, vi a1, vi a1] [] h := by
  refine (op_iload_n (pc' := 1) rfl rfl rfl).trans ?_
  refine (op_istore_n (pc' := 2) (ls' := [vr a0, vi a1, vi a1]) rfl rfl rfl rfl).trans ?_
  rfl
theorem B_11_2 {d : Nat} {h : am_H} {a0 : Option Nat} {a1 : Int32} {a2 : Int32} : Ev (d + 4) 11 2 [vr a0, vi a1, vi a2] [] h = (a0).bind fun n4 => if hkd h n4 = 3 then if (hI h n4 1) ≤ a2 then Ev (d + 4) 11 38 [vr a0, vi a1, vi a2] [] h else Ev (d + 4) 11 10 [vr a0, vi a1, vi a2] [] h else none := by
  refine (op_iload_n (pc' := 3) rfl rfl rfl).trans ?_
  refine (op_aload_n (pc' := 4) rfl rfl rfl).trans ?_
  refine (op_getI (pc' := 7) rfl rfl (by decide) (Or.inl rfl)).trans (op_bind fun n4 => op_ite ?_)
  exact op_icmpge (pc' := 10) rfl rfl
theorem B_11_10 {d : Nat} {h : am_H} {a0 : Option Nat} {a1 : Int32} {a2 : Int32} : Ev (d + 4) 11 10 [vr a0, vi a1, vi a2] [] h = (a0).bind fun n11 => if hkd h n11 = 3 then ((hR h n11 0)).bind fun n15 => if (hkd h n15 = 100 ∨ hkd h n15 = 901) ∧ am_ix a2 (hln h n15) then if (hI h n15 (Int32.toNatClampNeg a2)) = 32 then Ev (d + 4) 11 32 [vr a0, vi a1, vi a2] [] h else Ev (d + 4) 11 21 [vr a0, vi a1, vi a2] [] h else none else none := by
  refine (op_aload_n (pc' := 11) rfl rfl rfl).trans ?_
  refine (op_getR (pc' := 14) rfl rfl (by decide) rfl).trans (op_bind fun n11 => op_ite ?_)
  refine (op_iload_n (pc' := 15) rfl rfl rfl).trans ?_
  refine (op_iaload (pc' := 16) rfl rfl).trans (op_bind fun n15 => op_ite ?_)
  refine (op_bipush (pc' := 18) rfl rfl k32_32).trans ?_
  exact op_icmpeq (pc' := 21) rfl rfl
theorem B_11_21 {d : Nat} {h : am_H} {a0 : Option Nat} {a1 : Int32} {a2 : Int32} : Ev (d + 4) 11 21 [vr a0, vi a1, vi a2] [] h = (a0).bind fun n22 => if hkd h n22 = 3 then ((hR h n22 0)).bind fun n26 => if (hkd h n26 = 100 ∨ hkd h n26 = 901) ∧ am_ix a2 (hln h n26) then if (hI h n26 (Int32.toNatClampNeg a2)) ≠ 10 then Ev (d + 4) 11 38 [vr a0, vi a1, vi a2] [] h else Ev (d + 4) 11 32 [vr a0, vi a1, vi a2] [] h else none else none := by
  refine (op_aload_n (pc' := 22) rfl rfl rfl).trans ?_
  refine (op_getR (pc' := 25) rfl rfl (by decide) rfl).trans (op_bind fun n22 => op_ite ?_)
  refine (op_iload_n (pc' := 26) rfl rfl rfl).trans ?_
  refine (op_iaload (pc' := 27) rfl rfl).trans (op_bind fun n26 => op_ite ?_)
  refine (op_bipush (pc' := 29) rfl rfl k32_10).trans ?_
  exact op_icmpne (pc' := 32) rfl rfl
theorem B_11_32 {d : Nat} {h : am_H} {a0 : Option Nat} {a1 : Int32} {a2 : Int32} : Ev (d + 4) 11 32 [vr a0, vi a1, vi a2] [] h = Ev (d + 4) 11 2 [vr a0, vi a1, vi (a2 + 1)] [] h := by
  refine (op_iinc (pc' := 35) (ls' := [vr a0, vi a1, vi (a2 + 1)]) rfl rfl rfl k32_1 rfl).trans ?_
  refine (op_goto rfl).trans ?_
  rfl
theorem B_11_38 {d : Nat} {h : am_H} {a0 : Option Nat} {a1 : Int32} {a2 : Int32} : Ev (d + 4) 11 38 [vr a0, vi a1, vi a2] [] h = some (some (vi a2), h) := by
  refine (op_iload_n (pc' := 39) rfl rfl rfl).trans ?_
  exact op_ireturnI rfl rfl
/-! 12 DrumWorld$Tape.pastToken(I)I -/
theorem E_12 {d : Nat} {h : am_H} {a0 : Option Nat} {a1 : Int32} : Cl d 12 [vr a0, vi a1] h = Ev d 12 0 [vr a0, vi a1, vu] [] h := if_pos (Nat.le_of_ble_eq_true rfl)
theorem B_12_0 {d : Nat} {h : am_H} {a0 : Option Nat} {a1 : Int32} : Ev (d + 4) 12 0 [vr a0, vi a1, vu] [] h = Ev (d + 4) 12 4 [vr a0, vi a1, vi (a1 + 1)] [] h := by
  refine (op_iload_n (pc' := 1) rfl rfl rfl).trans ?_
  refine (op_iconst (pc' := 2) rfl rfl k32_1).trans ?_
  refine (op_iadd (pc' := 3) rfl rfl).trans ?_
  refine (op_istore_n (pc' := 4) (ls' := [vr a0, vi a1, vi (a1 + 1)]) rfl rfl rfl rfl).trans ?_
  rfl
theorem B_12_4 {d : Nat} {h : am_H} {a0 : Option Nat} {a1 : Int32} {a2 : Int32} : Ev (d + 4) 12 4 [vr a0, vi a1, vi a2] [] h = (a0).bind fun n6 => if hkd h n6 = 3 then if (hI h n6 1) ≤ a2 then Ev (d + 4) 12 66 [vr a0, vi a1, vi a2] [] h else Ev (d + 4) 12 12 [vr a0, vi a1, vi a2] [] h else none := by
  refine (op_iload_n (pc' := 5) rfl rfl rfl).trans ?_
  refine (op_aload_n (pc' := 6) rfl rfl rfl).trans ?_
  refine (op_getI (pc' := 9) rfl rfl (by decide) (Or.inl rfl)).trans (op_bind fun n6 => op_ite ?_)
  exact op_icmpge (pc' := 12) rfl rfl
theorem B_12_12 {d : Nat} {h : am_H} {a0 : Option Nat} {a1 : Int32} {a2 : Int32} : Ev (d + 4) 12 12 [vr a0, vi a1, vi a2] [] h = (a0).bind fun n13 => if hkd h n13 = 3 then ((hR h n13 0)).bind fun n17 => if (hkd h n17 = 100 ∨ hkd h n17 = 901) ∧ am_ix a1 (hln h n17) then (Cl (d + 3) 13 [vi (hI h n17 (Int32.toNatClampNeg a1))] h).bind fun x => Ev (d + 4) 12 21 [vr a0, vi a1, vi a2] (x.1.toList ++ []) x.2 else none else none := by
  refine (op_aload_n (pc' := 13) rfl rfl rfl).trans ?_
  refine (op_getR (pc' := 16) rfl rfl (by decide) rfl).trans (op_bind fun n13 => op_ite ?_)
  refine (op_iload_n (pc' := 17) rfl rfl rfl).trans ?_
  refine (op_iaload (pc' := 18) rfl rfl).trans (op_bind fun n17 => op_ite ?_)
  exact op_static (pc' := 21) rfl rfl rfl rfl rfl rfl
theorem B_12_21 {d : Nat} {h : am_H} {a0 : Option Nat} {a1 : Int32} {a2 : Int32} {s0 : Int32} : Ev (d + 4) 12 21 [vr a0, vi a1, vi a2] [vi s0] h = if s0 = 0 then Ev (d + 4) 12 36 [vr a0, vi a1, vi a2] [] h else Ev (d + 4) 12 24 [vr a0, vi a1, vi a2] [] h := by
  exact op_ifeq (pc' := 24) rfl rfl
theorem B_12_24 {d : Nat} {h : am_H} {a0 : Option Nat} {a1 : Int32} {a2 : Int32} : Ev (d + 4) 12 24 [vr a0, vi a1, vi a2] [] h = (a0).bind fun n25 => if hkd h n25 = 3 then ((hR h n25 0)).bind fun n29 => if (hkd h n29 = 100 ∨ hkd h n29 = 901) ∧ am_ix a2 (hln h n29) then (Cl (d + 3) 13 [vi (hI h n29 (Int32.toNatClampNeg a2))] h).bind fun x => Ev (d + 4) 12 33 [vr a0, vi a1, vi a2] (x.1.toList ++ []) x.2 else none else none := by
  refine (op_aload_n (pc' := 25) rfl rfl rfl).trans ?_
  refine (op_getR (pc' := 28) rfl rfl (by decide) rfl).trans (op_bind fun n25 => op_ite ?_)
  refine (op_iload_n (pc' := 29) rfl rfl rfl).trans ?_
  refine (op_iaload (pc' := 30) rfl rfl).trans (op_bind fun n29 => op_ite ?_)
  exact op_static (pc' := 33) rfl rfl rfl rfl rfl rfl
theorem B_12_33 {d : Nat} {h : am_H} {a0 : Option Nat} {a1 : Int32} {a2 : Int32} {s0 : Int32} : Ev (d + 4) 12 33 [vr a0, vi a1, vi a2] [vi s0] h = if s0 ≠ 0 then Ev (d + 4) 12 60 [vr a0, vi a1, vi a2] [] h else Ev (d + 4) 12 36 [vr a0, vi a1, vi a2] [] h := by
  exact op_ifne (pc' := 36) rfl rfl
theorem B_12_36 {d : Nat} {h : am_H} {a0 : Option Nat} {a1 : Int32} {a2 : Int32} : Ev (d + 4) 12 36 [vr a0, vi a1, vi a2] [] h = (a0).bind fun n37 => if hkd h n37 = 3 then ((hR h n37 0)).bind fun n41 => if (hkd h n41 = 100 ∨ hkd h n41 = 901) ∧ am_ix a1 (hln h n41) then (Cl (d + 3) 14 [vi (hI h n41 (Int32.toNatClampNeg a1))] h).bind fun x => Ev (d + 4) 12 45 [vr a0, vi a1, vi a2] (x.1.toList ++ []) x.2 else none else none := by
  refine (op_aload_n (pc' := 37) rfl rfl rfl).trans ?_
  refine (op_getR (pc' := 40) rfl rfl (by decide) rfl).trans (op_bind fun n37 => op_ite ?_)
  refine (op_iload_n (pc' := 41) rfl rfl rfl).trans ?_
  refine (op_iaload (pc' := 42) rfl rfl).trans (op_bind fun n41 => op_ite ?_)
  exact op_static (pc' := 45) rfl rfl rfl rfl rfl rfl
theorem B_12_45 {d : Nat} {h : am_H} {a0 : Option Nat} {a1 : Int32} {a2 : Int32} {s0 : Int32} : Ev (d + 4) 12 45 [vr a0, vi a1, vi a2] [vi s0] h = if s0 = 0 then Ev (d + 4) 12 66 [vr a0, vi a1, vi a2] [] h else Ev (d + 4) 12 48 [vr a0, vi a1, vi a2] [] h := by
  exact op_ifeq (pc' := 48) rfl rfl
theorem B_12_48 {d : Nat} {h : am_H} {a0 : Option Nat} {a1 : Int32} {a2 : Int32} : Ev (d + 4) 12 48 [vr a0, vi a1, vi a2] [] h = (a0).bind fun n49 => if hkd h n49 = 3 then ((hR h n49 0)).bind fun n53 => if (hkd h n53 = 100 ∨ hkd h n53 = 901) ∧ am_ix a2 (hln h n53) then (Cl (d + 3) 14 [vi (hI h n53 (Int32.toNatClampNeg a2))] h).bind fun x => Ev (d + 4) 12 57 [vr a0, vi a1, vi a2] (x.1.toList ++ []) x.2 else none else none := by
  refine (op_aload_n (pc' := 49) rfl rfl rfl).trans ?_
  refine (op_getR (pc' := 52) rfl rfl (by decide) rfl).trans (op_bind fun n49 => op_ite ?_)
  refine (op_iload_n (pc' := 53) rfl rfl rfl).trans ?_
  refine (op_iaload (pc' := 54) rfl rfl).trans (op_bind fun n53 => op_ite ?_)
  exact op_static (pc' := 57) rfl rfl rfl rfl rfl rfl
theorem B_12_57 {d : Nat} {h : am_H} {a0 : Option Nat} {a1 : Int32} {a2 : Int32} {s0 : Int32} : Ev (d + 4) 12 57 [vr a0, vi a1, vi a2] [vi s0] h = if s0 = 0 then Ev (d + 4) 12 66 [vr a0, vi a1, vi a2] [] h else Ev (d + 4) 12 60 [vr a0, vi a1, vi a2] [] h := by
  exact op_ifeq (pc' := 60) rfl rfl
theorem B_12_60 {d : Nat} {h : am_H} {a0 : Option Nat} {a1 : Int32} {a2 : Int32} : Ev (d + 4) 12 60 [vr a0, vi a1, vi a2] [] h = Ev (d + 4) 12 4 [vr a0, vi a1, vi (a2 + 1)] [] h := by
  refine (op_iinc (pc' := 63) (ls' := [vr a0, vi a1, vi (a2 + 1)]) rfl rfl rfl k32_1 rfl).trans ?_
  refine (op_goto rfl).trans ?_
  rfl
theorem B_12_66 {d : Nat} {h : am_H} {a0 : Option Nat} {a1 : Int32} {a2 : Int32} : Ev (d + 4) 12 66 [vr a0, vi a1, vi a2] [] h = some (some (vi a2), h) := by
  refine (op_iload_n (pc' := 67) rfl rfl rfl).trans ?_
  exact op_ireturnI rfl rfl
/-! 13 DrumWorld$Tape.isLetter(I)Z -/
theorem E_13 {d : Nat} {h : am_H} {a0 : Int32} : Cl d 13 [vi a0] h = Ev d 13 0 [vi a0] [] h := if_pos (Nat.le_of_ble_eq_true rfl)
theorem B_13_0 {d : Nat} {h : am_H} {a0 : Int32} : Ev (d + 4) 13 0 [vi a0] [] h = if a0 < 97 then Ev (d + 4) 13 16 [vi a0] [] h else Ev (d + 4) 13 6 [vi a0] [] h := by
  refine (op_iload_n (pc' := 1) rfl rfl rfl).trans ?_
  refine (op_bipush (pc' := 3) rfl rfl k32_97).trans ?_
  exact op_icmplt (pc' := 6) rfl rfl
theorem B_13_6 {d : Nat} {h : am_H} {a0 : Int32} : Ev (d + 4) 13 6 [vi a0] [] h = if 122 < a0 then Ev (d + 4) 13 16 [vi a0] [] h else Ev (d + 4) 13 12 [vi a0] [] h := by
  refine (op_iload_n (pc' := 7) rfl rfl rfl).trans ?_
  refine (op_bipush (pc' := 9) rfl rfl k32_122).trans ?_
  exact op_icmpgt (pc' := 12) rfl rfl
theorem B_13_12 {d : Nat} {h : am_H} {a0 : Int32} : Ev (d + 4) 13 12 [vi a0] [] h = Ev (d + 4) 13 17 [vi a0] [vi 1] h := by
  refine (op_iconst (pc' := 13) rfl rfl k32_1).trans ?_
  refine (op_goto rfl).trans ?_
  rfl
theorem B_13_16 {d : Nat} {h : am_H} {a0 : Int32} : Ev (d + 4) 13 16 [vi a0] [] h = Ev (d + 4) 13 17 [vi a0] [vi 0] h := by
  refine (op_iconst (pc' := 17) rfl rfl k32_0).trans ?_
  rfl
theorem B_13_17 {d : Nat} {h : am_H} {a0 : Int32} {s0 : Int32} : Ev (d + 4) 13 17 [vi a0] [vi s0] h = if s0 = 0 ∨ s0 = 1 then some (some (vi s0), h) else none := by
  exact op_ireturnZ rfl rfl
/-! 14 DrumWorld$Tape.isDigit(I)Z -/
theorem E_14 {d : Nat} {h : am_H} {a0 : Int32} : Cl d 14 [vi a0] h = Ev d 14 0 [vi a0] [] h := if_pos (Nat.le_of_ble_eq_true rfl)
theorem B_14_0 {d : Nat} {h : am_H} {a0 : Int32} : Ev (d + 4) 14 0 [vi a0] [] h = if a0 < 48 then Ev (d + 4) 14 16 [vi a0] [] h else Ev (d + 4) 14 6 [vi a0] [] h := by
  refine (op_iload_n (pc' := 1) rfl rfl rfl).trans ?_
  refine (op_bipush (pc' := 3) rfl rfl k32_48).trans ?_
  exact op_icmplt (pc' := 6) rfl rfl
theorem B_14_6 {d : Nat} {h : am_H} {a0 : Int32} : Ev (d + 4) 14 6 [vi a0] [] h = if 57 < a0 then Ev (d + 4) 14 16 [vi a0] [] h else Ev (d + 4) 14 12 [vi a0] [] h := by
  refine (op_iload_n (pc' := 7) rfl rfl rfl).trans ?_
  refine (op_bipush (pc' := 9) rfl rfl k32_57).trans ?_
  exact op_icmpgt (pc' := 12) rfl rfl
theorem B_14_12 {d : Nat} {h : am_H} {a0 : Int32} : Ev (d + 4) 14 12 [vi a0] [] h = Ev (d + 4) 14 17 [vi a0] [vi 1] h := by
  refine (op_iconst (pc' := 13) rfl rfl k32_1).trans ?_
  refine (op_goto rfl).trans ?_
  rfl
theorem B_14_16 {d : Nat} {h : am_H} {a0 : Int32} : Ev (d + 4) 14 16 [vi a0] [] h = Ev (d + 4) 14 17 [vi a0] [vi 0] h := by
  refine (op_iconst (pc' := 17) rfl rfl k32_0).trans ?_
  rfl
theorem B_14_17 {d : Nat} {h : am_H} {a0 : Int32} {s0 : Int32} : Ev (d + 4) 14 17 [vi a0] [vi s0] h = if s0 = 0 ∨ s0 = 1 then some (some (vi s0), h) else none := by
  exact op_ireturnZ rfl rfl
/-! 15 DrumWorld$Tape.numberIn(II)I -/
theorem E_15 {d : Nat} {h : am_H} {a0 : Option Nat} {a1 : Int32} {a2 : Int32} : Cl d 15 [vr a0, vi a1, vi a2] h = Ev d 15 0 [vr a0, vi a1, vi a2, vu, vu] [] h := if_pos (Nat.le_of_ble_eq_true rfl)
theorem B_15_0 {d : Nat} {h : am_H} {a0 : Option Nat} {a1 : Int32} {a2 : Int32} : Ev (d + 4) 15 0 [vr a0, vi a1, vi a2, vu, vu] [] h = Ev (d + 4) 15 5 [vr a0, vi a1, vi a2, vi 0, vi a1] [] h := by
  refine (op_iconst (pc' := 1) rfl rfl k32_0).trans ?_
  refine (op_istore_n (pc' := 2) (ls' := [vr a0, vi a1, vi a2, vi 0, vu]) rfl rfl rfl rfl).trans ?_
  refine (op_iload_n (pc' := 3) rfl rfl rfl).trans ?_
  refine (op_istore (pc' := 5) (ls' := [vr a0, vi a1, vi a2, vi 0, vi a1]) rfl rfl rfl rfl).trans ?_
  rfl
theorem B_15_5 {d : Nat} {h : am_H} {a0 : Option Nat} {a1 : Int32} {a2 : Int32} {a3 : Int32} {a4 : Int32} : Ev (d + 4) 15 5 [vr a0, vi a1, vi a2, vi a3, vi a4] [] h = if a2 ≤ a4 then Ev (d + 4) 15 33 [vr a0, vi a1, vi a2, vi a3, vi a4] [] h else Ev (d + 4) 15 11 [vr a0, vi a1, vi a2, vi a3, vi a4] [] h := by
  refine (op_iload (pc' := 7) rfl rfl rfl).trans ?_
  refine (op_iload_n (pc' := 8) rfl rfl rfl).trans ?_
  exact op_icmpge (pc' := 11) rfl rfl
theorem B_15_11 {d : Nat} {h : am_H} {a0 : Option Nat} {a1 : Int32} {a2 : Int32} {a3 : Int32} {a4 : Int32} : Ev (d + 4) 15 11 [vr a0, vi a1, vi a2, vi a3, vi a4] [] h = (a0).bind fun n16 => if hkd h n16 = 3 then ((hR h n16 0)).bind fun n21 => if (hkd h n21 = 100 ∨ hkd h n21 = 901) ∧ am_ix a4 (hln h n21) then Ev (d + 4) 15 5 [vr a0, vi a1, vi a2, vi (((10 * a3) + (hI h n21 (Int32.toNatClampNeg a4))) - 48), vi (a4 + 1)] [] h else none else none := by
  refine (op_bipush (pc' := 13) rfl rfl k32_10).trans ?_
  refine (op_iload_n (pc' := 14) rfl rfl rfl).trans ?_
  refine (op_imul (pc' := 15) rfl rfl).trans ?_
  refine (op_aload_n (pc' := 16) rfl rfl rfl).trans ?_
  refine (op_getR (pc' := 19) rfl rfl (by decide) rfl).trans (op_bind fun n16 => op_ite ?_)
  refine (op_iload (pc' := 21) rfl rfl rfl).trans ?_
  refine (op_iaload (pc' := 22) rfl rfl).trans (op_bind fun n21 => op_ite ?_)
  refine (op_iadd (pc' := 23) rfl rfl).trans ?_
  refine (op_bipush (pc' := 25) rfl rfl k32_48).trans ?_
  refine (op_isub (pc' := 26) rfl rfl).trans ?_
  refine (op_istore_n (pc' := 27) (ls' := [vr a0, vi a1, vi a2, vi (((10 * a3) + (hI h n21 (Int32.toNatClampNeg a4))) - 48), vi a4]) rfl rfl rfl rfl).trans ?_
  refine (op_iinc (pc' := 30) (ls' := [vr a0, vi a1, vi a2, vi (((10 * a3) + (hI h n21 (Int32.toNatClampNeg a4))) - 48), vi (a4 + 1)]) rfl rfl rfl k32_1 rfl).trans ?_
  refine (op_goto rfl).trans ?_
  rfl
theorem B_15_33 {d : Nat} {h : am_H} {a0 : Option Nat} {a1 : Int32} {a2 : Int32} {a3 : Int32} {a4 : Int32} : Ev (d + 4) 15 33 [vr a0, vi a1, vi a2, vi a3, vi a4] [] h = some (some (vi a3), h) := by
  refine (op_iload_n (pc' := 34) rfl rfl rfl).trans ?_
  exact op_ireturnI rfl rfl
/-! 16 DrumWorld$Tape.tokenIn(II)I -/
theorem E_16 {d : Nat} {h : am_H} {a0 : Option Nat} {a1 : Int32} {a2 : Int32} : Cl d 16 [vr a0, vi a1, vi a2] h = Ev d 16 0 [vr a0, vi a1, vi a2, vu] [] h := if_pos (Nat.le_of_ble_eq_true rfl)
theorem B_16_0 {d : Nat} {h : am_H} {a0 : Option Nat} {a1 : Int32} {a2 : Int32} : Ev (d + 4) 16 0 [vr a0, vi a1, vi a2, vu] [] h = (a0).bind fun n1 => if hkd h n1 = 3 then ((hR h n1 0)).bind fun n5 => if (hkd h n5 = 100 ∨ hkd h n5 = 901) ∧ am_ix a1 (hln h n5) then (Cl (d + 3) 13 [vi (hI h n5 (Int32.toNatClampNeg a1))] h).bind fun x => Ev (d + 4) 16 11 [vr a0, vi a1, vi a2, vi (hI h n5 (Int32.toNatClampNeg a1))] (x.1.toList ++ []) x.2 else none else none := by
  refine (op_aload_n (pc' := 1) rfl rfl rfl).trans ?_
  refine (op_getR (pc' := 4) rfl rfl (by decide) rfl).trans (op_bind fun n1 => op_ite ?_)
  refine (op_iload_n (pc' := 5) rfl rfl rfl).trans ?_
  refine (op_iaload (pc' := 6) rfl rfl).trans (op_bind fun n5 => op_ite ?_)
  refine (op_istore_n (pc' := 7) (ls' := [vr a0, vi a1, vi a2, vi (hI h n5 (Int32.toNatClampNeg a1))]) rfl rfl rfl rfl).trans ?_
  refine (op_iload_n (pc' := 8) rfl rfl rfl).trans ?_
  exact op_static (pc' := 11) rfl rfl rfl rfl rfl rfl
theorem B_16_11 {d : Nat} {h : am_H} {a0 : Option Nat} {a1 : Int32} {a2 : Int32} {a3 : Int32} {s0 : Int32} : Ev (d + 4) 16 11 [vr a0, vi a1, vi a2, vi a3] [vi s0] h = if s0 = 0 then Ev (d + 4) 16 21 [vr a0, vi a1, vi a2, vi a3] [] h else Ev (d + 4) 16 14 [vr a0, vi a1, vi a2, vi a3] [] h := by
  exact op_ifeq (pc' := 14) rfl rfl
theorem B_16_14 {d : Nat} {h : am_H} {a0 : Option Nat} {a1 : Int32} {a2 : Int32} {a3 : Int32} : Ev (d + 4) 16 14 [vr a0, vi a1, vi a2, vi a3] [] h = (a0).bind fun n17 => if hkd h n17 = 3 then (Cl (d + 3) 17 [vr a0, vi a1, vi a2] h).bind fun x => Ev (d + 4) 16 20 [vr a0, vi a1, vi a2, vi a3] (x.1.toList ++ []) x.2 else none := by
  refine (op_aload_n (pc' := 15) rfl rfl rfl).trans ?_
  refine (op_iload_n (pc' := 16) rfl rfl rfl).trans ?_
  refine (op_iload_n (pc' := 17) rfl rfl rfl).trans ?_
  exact op_virtual (pc' := 20) (m := 3) rfl rfl rfl rfl rfl rfl rfl rfl
theorem B_16_20 {d : Nat} {h : am_H} {a0 : Option Nat} {a1 : Int32} {a2 : Int32} {a3 : Int32} {s0 : Int32} : Ev (d + 4) 16 20 [vr a0, vi a1, vi a2, vi a3] [vi s0] h = some (some (vi s0), h) := by
  exact op_ireturnI rfl rfl
theorem B_16_21 {d : Nat} {h : am_H} {a0 : Option Nat} {a1 : Int32} {a2 : Int32} {a3 : Int32} : Ev (d + 4) 16 21 [vr a0, vi a1, vi a2, vi a3] [] h = (Cl (d + 3) 14 [vi a3] h).bind fun x => Ev (d + 4) 16 25 [vr a0, vi a1, vi a2, vi a3] (x.1.toList ++ []) x.2 := by
  refine (op_iload_n (pc' := 22) rfl rfl rfl).trans ?_
  exact op_static (pc' := 25) rfl rfl rfl rfl rfl rfl
theorem B_16_25 {d : Nat} {h : am_H} {a0 : Option Nat} {a1 : Int32} {a2 : Int32} {a3 : Int32} {s0 : Int32} : Ev (d + 4) 16 25 [vr a0, vi a1, vi a2, vi a3] [vi s0] h = if s0 = 0 then Ev (d + 4) 16 41 [vr a0, vi a1, vi a2, vi a3] [] h else Ev (d + 4) 16 28 [vr a0, vi a1, vi a2, vi a3] [] h := by
  exact op_ifeq (pc' := 28) rfl rfl
theorem B_16_28 {d : Nat} {h : am_H} {a0 : Option Nat} {a1 : Int32} {a2 : Int32} {a3 : Int32} : Ev (d + 4) 16 28 [vr a0, vi a1, vi a2, vi a3] [] h = if (a2 - a1) ≤ 4 then Ev (d + 4) 16 39 [vr a0, vi a1, vi a2, vi a3] [] h else Ev (d + 4) 16 35 [vr a0, vi a1, vi a2, vi a3] [] h := by
  refine (op_iload_n (pc' := 29) rfl rfl rfl).trans ?_
  refine (op_iload_n (pc' := 30) rfl rfl rfl).trans ?_
  refine (op_isub (pc' := 31) rfl rfl).trans ?_
  refine (op_iconst (pc' := 32) rfl rfl k32_4).trans ?_
  exact op_icmple (pc' := 35) rfl rfl
theorem B_16_35 {d : Nat} {h : am_H} {a0 : Option Nat} {a1 : Int32} {a2 : Int32} {a3 : Int32} : Ev (d + 4) 16 35 [vr a0, vi a1, vi a2, vi a3] [] h = Ev (d + 4) 16 40 [vr a0, vi a1, vi a2, vi a3] [vi 2] h := by
  refine (op_iconst (pc' := 36) rfl rfl k32_2).trans ?_
  refine (op_goto rfl).trans ?_
  rfl
theorem B_16_39 {d : Nat} {h : am_H} {a0 : Option Nat} {a1 : Int32} {a2 : Int32} {a3 : Int32} : Ev (d + 4) 16 39 [vr a0, vi a1, vi a2, vi a3] [] h = Ev (d + 4) 16 40 [vr a0, vi a1, vi a2, vi a3] [vi 1] h := by
  refine (op_iconst (pc' := 40) rfl rfl k32_1).trans ?_
  rfl
theorem B_16_40 {d : Nat} {h : am_H} {a0 : Option Nat} {a1 : Int32} {a2 : Int32} {a3 : Int32} {s0 : Int32} : Ev (d + 4) 16 40 [vr a0, vi a1, vi a2, vi a3] [vi s0] h = some (some (vi s0), h) := by
  exact op_ireturnI rfl rfl
theorem B_16_41 {d : Nat} {h : am_H} {a0 : Option Nat} {a1 : Int32} {a2 : Int32} {a3 : Int32} : Ev (d + 4) 16 41 [vr a0, vi a1, vi a2, vi a3] [] h = ((some 1000026)).bind fun n45 => if hkd h n45 = 902 then (Cl (d + 3) 224 [vr (some 1000026), vi ((Int32.toUInt32 a3 % 65536).toInt32)] h).bind fun x => Ev (d + 4) 16 48 [vr a0, vi a1, vi a2, vi a3] (x.1.toList ++ []) x.2 else none := by
  refine (op_ldcS (pc' := 43) rfl rfl).trans ?_
  refine (op_iload_n (pc' := 44) rfl rfl rfl).trans ?_
  refine (op_i2c (pc' := 45) rfl rfl).trans ?_
  exact op_virtual (pc' := 48) (m := 902) rfl rfl rfl rfl rfl rfl rfl rfl
theorem B_16_48 {d : Nat} {h : am_H} {a0 : Option Nat} {a1 : Int32} {a2 : Int32} {a3 : Int32} {s0 : Int32} : Ev (d + 4) 16 48 [vr a0, vi a1, vi a2, vi a3] [vi s0] h = if s0 < 0 then Ev (d + 4) 16 55 [vr a0, vi a1, vi a2, vi a3] [] h else Ev (d + 4) 16 51 [vr a0, vi a1, vi a2, vi a3] [] h := by
  exact op_iflt (pc' := 51) rfl rfl
theorem B_16_51 {d : Nat} {h : am_H} {a0 : Option Nat} {a1 : Int32} {a2 : Int32} {a3 : Int32} : Ev (d + 4) 16 51 [vr a0, vi a1, vi a2, vi a3] [] h = Ev (d + 4) 16 56 [vr a0, vi a1, vi a2, vi a3] [vi a3] h := by
  refine (op_iload_n (pc' := 52) rfl rfl rfl).trans ?_
  refine (op_goto rfl).trans ?_
  rfl
theorem B_16_55 {d : Nat} {h : am_H} {a0 : Option Nat} {a1 : Int32} {a2 : Int32} {a3 : Int32} : Ev (d + 4) 16 55 [vr a0, vi a1, vi a2, vi a3] [] h = Ev (d + 4) 16 56 [vr a0, vi a1, vi a2, vi a3] [vi 2] h := by
  refine (op_iconst (pc' := 56) rfl rfl k32_2).trans ?_
  rfl
theorem B_16_56 {d : Nat} {h : am_H} {a0 : Option Nat} {a1 : Int32} {a2 : Int32} {a3 : Int32} {s0 : Int32} : Ev (d + 4) 16 56 [vr a0, vi a1, vi a2, vi a3] [vi s0] h = some (some (vi s0), h) := by
  exact op_ireturnI rfl rfl
/-! 17 DrumWorld$Tape.wordIn(II)I -/
theorem E_17 {d : Nat} {h : am_H} {a0 : Option Nat} {a1 : Int32} {a2 : Int32} : Cl d 17 [vr a0, vi a1, vi a2] h = Ev d 17 0 [vr a0, vi a1, vi a2, vu] [] h := if_pos (Nat.le_of_ble_eq_true rfl)
theorem B_17_0 {d : Nat} {h : am_H} {a0 : Option Nat} {a1 : Int32} {a2 : Int32} : Ev (d + 4) 17 0 [vr a0, vi a1, vi a2, vu] [] h = Ev (d + 4) 17 4 [vr a0, vi a1, vi a2, vi 128] [] h := by
  refine (op_sipush (pc' := 3) rfl rfl k32_128).trans ?_
  refine (op_istore_n (pc' := 4) (ls' := [vr a0, vi a1, vi a2, vi 128]) rfl rfl rfl rfl).trans ?_
  rfl
theorem B_17_4 {d : Nat} {h : am_H} {a0 : Option Nat} {a1 : Int32} {a2 : Int32} {a3 : Int32} : Ev (d + 4) 17 4 [vr a0, vi a1, vi a2, vi a3] [] h = if 138 < a3 then Ev (d + 4) 17 32 [vr a0, vi a1, vi a2, vi a3] [] h else Ev (d + 4) 17 11 [vr a0, vi a1, vi a2, vi a3] [] h := by
  refine (op_iload_n (pc' := 5) rfl rfl rfl).trans ?_
  refine (op_sipush (pc' := 8) rfl rfl k32_138).trans ?_
  exact op_icmpgt (pc' := 11) rfl rfl
theorem B_17_11 {d : Nat} {h : am_H} {a0 : Option Nat} {a1 : Int32} {a2 : Int32} {a3 : Int32} : Ev (d + 4) 17 11 [vr a0, vi a1, vi a2, vi a3] [] h = (Cl (d + 3) 18 [vi a3] h).bind fun x => Ev (d + 4) 17 16 [vr a0, vi a1, vi a2, vi a3] (x.1.toList ++ [vr a0]) x.2 := by
  refine (op_aload_n (pc' := 12) rfl rfl rfl).trans ?_
  refine (op_iload_n (pc' := 13) rfl rfl rfl).trans ?_
  exact op_static (pc' := 16) rfl rfl rfl rfl rfl rfl
theorem B_17_16 {d : Nat} {h : am_H} {a0 : Option Nat} {a1 : Int32} {a2 : Int32} {a3 : Int32} {s0 : Option Nat} {s1 : Option Nat} : Ev (d + 4) 17 16 [vr a0, vi a1, vi a2, vi a3] [vr s0, vr s1] h = (s1).bind fun n18 => if hkd h n18 = 3 then (Cl (d + 3) 19 [vr s1, vr s0, vi a1, vi a2] h).bind fun x => Ev (d + 4) 17 21 [vr a0, vi a1, vi a2, vi a3] (x.1.toList ++ []) x.2 else none := by
  refine (op_iload_n (pc' := 17) rfl rfl rfl).trans ?_
  refine (op_iload_n (pc' := 18) rfl rfl rfl).trans ?_
  exact op_virtual (pc' := 21) (m := 3) rfl rfl rfl rfl rfl rfl rfl rfl
theorem B_17_21 {d : Nat} {h : am_H} {a0 : Option Nat} {a1 : Int32} {a2 : Int32} {a3 : Int32} {s0 : Int32} : Ev (d + 4) 17 21 [vr a0, vi a1, vi a2, vi a3] [vi s0] h = if s0 = 0 then Ev (d + 4) 17 26 [vr a0, vi a1, vi a2, vi a3] [] h else Ev (d + 4) 17 24 [vr a0, vi a1, vi a2, vi a3] [] h := by
  exact op_ifeq (pc' := 24) rfl rfl
theorem B_17_24 {d : Nat} {h : am_H} {a0 : Option Nat} {a1 : Int32} {a2 : Int32} {a3 : Int32} : Ev (d + 4) 17 24 [vr a0, vi a1, vi a2, vi a3] [] h = some (some (vi a3), h) := by
  refine (op_iload_n (pc' := 25) rfl rfl rfl).trans ?_
  exact op_ireturnI rfl rfl
theorem B_17_26 {d : Nat} {h : am_H} {a0 : Option Nat} {a1 : Int32} {a2 : Int32} {a3 : Int32} : Ev (d + 4) 17 26 [vr a0, vi a1, vi a2, vi a3] [] h = Ev (d + 4) 17 4 [vr a0, vi a1, vi a2, vi (a3 + 1)] [] h := by
  refine (op_iinc (pc' := 29) (ls' := [vr a0, vi a1, vi a2, vi (a3 + 1)]) rfl rfl rfl k32_1 rfl).trans ?_
  refine (op_goto rfl).trans ?_
  rfl
theorem B_17_32 {d : Nat} {h : am_H} {a0 : Option Nat} {a1 : Int32} {a2 : Int32} {a3 : Int32} : Ev (d + 4) 17 32 [vr a0, vi a1, vi a2, vi a3] [] h = some (some (vi 2), h) := by
  refine (op_iconst (pc' := 33) rfl rfl k32_2).trans ?_
  exact op_ireturnI rfl rfl
/-! 18 DrumWorld$Tape.lettersOf(I)Ljava/lang/String; -/
theorem E_18 {d : Nat} {h : am_H} {a0 : Int32} : Cl d 18 [vi a0] h = Ev d 18 0 [vi a0] [] h := if_pos (Nat.le_of_ble_eq_true rfl)
theorem B_18_0 {d : Nat} {h : am_H} {a0 : Int32} : Ev (d + 4) 18 0 [vi a0] [] h = am_swE (d + 4) 18 [vi a0] [] h a0 93 [(128, 60), (129, 63), (130, 66), (131, 69), (132, 72), (133, 75), (134, 78), (135, 81), (136, 84), (137, 87), (138, 90)] := by
  refine (op_iload_n (pc' := 1) rfl rfl rfl).trans ?_
  exact op_tableswitch rfl (by simp only [List.map, k32_128, k32_129, k32_130, k32_131, k32_132, k32_133, k32_134, k32_135, k32_136, k32_137, k32_138])
theorem B_18_60 {d : Nat} {h : am_H} {a0 : Int32} : Ev (d + 4) 18 60 [vi a0] [] h = some (some (vr (some 1000002)), h) := by
  refine (op_ldcS (pc' := 62) rfl rfl).trans ?_
  exact op_areturn rfl rfl
theorem B_18_63 {d : Nat} {h : am_H} {a0 : Int32} : Ev (d + 4) 18 63 [vi a0] [] h = some (some (vr (some 1000004)), h) := by
  refine (op_ldcS (pc' := 65) rfl rfl).trans ?_
  exact op_areturn rfl rfl
theorem B_18_66 {d : Nat} {h : am_H} {a0 : Int32} : Ev (d + 4) 18 66 [vi a0] [] h = some (some (vr (some 1000006)), h) := by
  refine (op_ldcS (pc' := 68) rfl rfl).trans ?_
  exact op_areturn rfl rfl
theorem B_18_69 {d : Nat} {h : am_H} {a0 : Int32} : Ev (d + 4) 18 69 [vi a0] [] h = some (some (vr (some 1000008)), h) := by
  refine (op_ldcS (pc' := 71) rfl rfl).trans ?_
  exact op_areturn rfl rfl
theorem B_18_72 {d : Nat} {h : am_H} {a0 : Int32} : Ev (d + 4) 18 72 [vi a0] [] h = some (some (vr (some 1000010)), h) := by
  refine (op_ldcS (pc' := 74) rfl rfl).trans ?_
  exact op_areturn rfl rfl
theorem B_18_75 {d : Nat} {h : am_H} {a0 : Int32} : Ev (d + 4) 18 75 [vi a0] [] h = some (some (vr (some 1000012)), h) := by
  refine (op_ldcS (pc' := 77) rfl rfl).trans ?_
  exact op_areturn rfl rfl
theorem B_18_78 {d : Nat} {h : am_H} {a0 : Int32} : Ev (d + 4) 18 78 [vi a0] [] h = some (some (vr (some 1000014)), h) := by
  refine (op_ldcS (pc' := 80) rfl rfl).trans ?_
  exact op_areturn rfl rfl
theorem B_18_81 {d : Nat} {h : am_H} {a0 : Int32} : Ev (d + 4) 18 81 [vi a0] [] h = some (some (vr (some 1000016)), h) := by
  refine (op_ldcS (pc' := 83) rfl rfl).trans ?_
  exact op_areturn rfl rfl
theorem B_18_84 {d : Nat} {h : am_H} {a0 : Int32} : Ev (d + 4) 18 84 [vi a0] [] h = some (some (vr (some 1000018)), h) := by
  refine (op_ldcS (pc' := 86) rfl rfl).trans ?_
  exact op_areturn rfl rfl
theorem B_18_87 {d : Nat} {h : am_H} {a0 : Int32} : Ev (d + 4) 18 87 [vi a0] [] h = some (some (vr (some 1000020)), h) := by
  refine (op_ldcS (pc' := 89) rfl rfl).trans ?_
  exact op_areturn rfl rfl
theorem B_18_90 {d : Nat} {h : am_H} {a0 : Int32} : Ev (d + 4) 18 90 [vi a0] [] h = some (some (vr (some 1000022)), h) := by
  refine (op_ldcS (pc' := 92) rfl rfl).trans ?_
  exact op_areturn rfl rfl
theorem B_18_93 {d : Nat} {h : am_H} {a0 : Int32} : Ev (d + 4) 18 93 [vi a0] [] h = some (some (vr (some 1000024)), h) := by
  refine (op_ldcS (pc' := 95) rfl rfl).trans ?_
  exact op_areturn rfl rfl
/-! 19 DrumWorld$Tape.isThis(Ljava/lang/String;II)Z -/
theorem E_19 {d : Nat} {h : am_H} {a0 : Option Nat} {a1 : Option Nat} {a2 : Int32} {a3 : Int32} : Cl d 19 [vr a0, vr a1, vi a2, vi a3] h = Ev d 19 0 [vr a0, vr a1, vi a2, vi a3, vu] [] h := if_pos (Nat.le_of_ble_eq_true rfl)
theorem B_19_0 {d : Nat} {h : am_H} {a0 : Option Nat} {a1 : Option Nat} {a2 : Int32} {a3 : Int32} : Ev (d + 4) 19 0 [vr a0, vr a1, vi a2, vi a3, vu] [] h = (a1).bind fun n1 => if hkd h n1 = 902 then (Cl (d + 3) 219 [vr a1] h).bind fun x => Ev (d + 4) 19 4 [vr a0, vr a1, vi a2, vi a3, vu] (x.1.toList ++ []) x.2 else none := by
  refine (op_aload_n (pc' := 1) rfl rfl rfl).trans ?_
  exact op_virtual (pc' := 4) (m := 902) rfl rfl rfl rfl rfl rfl rfl rfl
theorem B_19_4 {d : Nat} {h : am_H} {a0 : Option Nat} {a1 : Option Nat} {a2 : Int32} {a3 : Int32} {s0 : Int32} : Ev (d + 4) 19 4 [vr a0, vr a1, vi a2, vi a3, vu] [vi s0] h = if s0 = (a3 - a2) then Ev (d + 4) 19 12 [vr a0, vr a1, vi a2, vi a3, vu] [] h else Ev (d + 4) 19 10 [vr a0, vr a1, vi a2, vi a3, vu] [] h := by
  refine (op_iload_n (pc' := 5) rfl rfl rfl).trans ?_
  refine (op_iload_n (pc' := 6) rfl rfl rfl).trans ?_
  refine (op_isub (pc' := 7) rfl rfl).trans ?_
  exact op_icmpeq (pc' := 10) rfl rfl
theorem B_19_10 {d : Nat} {h : am_H} {a0 : Option Nat} {a1 : Option Nat} {a2 : Int32} {a3 : Int32} : Ev (d + 4) 19 10 [vr a0, vr a1, vi a2, vi a3, vu] [] h = if 0 = 0 ∨ 0 = 1 then some (some (vi 0), h) else none := by
  refine (op_iconst (pc' := 11) rfl rfl k32_0).trans ?_
  exact op_ireturnZ rfl rfl
theorem B_19_12 {d : Nat} {h : am_H} {a0 : Option Nat} {a1 : Option Nat} {a2 : Int32} {a3 : Int32} : Ev (d + 4) 19 12 [vr a0, vr a1, vi a2, vi a3, vu] [] h = Ev (d + 4) 19 15 [vr a0, vr a1, vi a2, vi a3, vi a2] [] h := by
  refine (op_iload_n (pc' := 13) rfl rfl rfl).trans ?_
  refine (op_istore (pc' := 15) (ls' := [vr a0, vr a1, vi a2, vi a3, vi a2]) rfl rfl rfl rfl).trans ?_
  rfl
theorem B_19_15 {d : Nat} {h : am_H} {a0 : Option Nat} {a1 : Option Nat} {a2 : Int32} {a3 : Int32} {a4 : Int32} : Ev (d + 4) 19 15 [vr a0, vr a1, vi a2, vi a3, vi a4] [] h = if a3 ≤ a4 then Ev (d + 4) 19 47 [vr a0, vr a1, vi a2, vi a3, vi a4] [] h else Ev (d + 4) 19 21 [vr a0, vr a1, vi a2, vi a3, vi a4] [] h := by
  refine (op_iload (pc' := 17) rfl rfl rfl).trans ?_
  refine (op_iload_n (pc' := 18) rfl rfl rfl).trans ?_
  exact op_icmpge (pc' := 21) rfl rfl
theorem B_19_21 {d : Nat} {h : am_H} {a0 : Option Nat} {a1 : Option Nat} {a2 : Int32} {a3 : Int32} {a4 : Int32} : Ev (d + 4) 19 21 [vr a0, vr a1, vi a2, vi a3, vi a4] [] h = (a1).bind fun n26 => if hkd h n26 = 902 then (Cl (d + 3) 221 [vr a1, vi (a4 - a2)] h).bind fun x => Ev (d + 4) 19 29 [vr a0, vr a1, vi a2, vi a3, vi a4] (x.1.toList ++ []) x.2 else none := by
  refine (op_aload_n (pc' := 22) rfl rfl rfl).trans ?_
  refine (op_iload (pc' := 24) rfl rfl rfl).trans ?_
  refine (op_iload_n (pc' := 25) rfl rfl rfl).trans ?_
  refine (op_isub (pc' := 26) rfl rfl).trans ?_
  exact op_virtual (pc' := 29) (m := 902) rfl rfl rfl rfl rfl rfl rfl rfl
theorem B_19_29 {d : Nat} {h : am_H} {a0 : Option Nat} {a1 : Option Nat} {a2 : Int32} {a3 : Int32} {a4 : Int32} {s0 : Int32} : Ev (d + 4) 19 29 [vr a0, vr a1, vi a2, vi a3, vi a4] [vi s0] h = (a0).bind fun n30 => if hkd h n30 = 3 then ((hR h n30 0)).bind fun n35 => if (hkd h n35 = 100 ∨ hkd h n35 = 901) ∧ am_ix a4 (hln h n35) then if s0 = (hI h n35 (Int32.toNatClampNeg a4)) then Ev (d + 4) 19 41 [vr a0, vr a1, vi a2, vi a3, vi a4] [] h else Ev (d + 4) 19 39 [vr a0, vr a1, vi a2, vi a3, vi a4] [] h else none else none := by
  refine (op_aload_n (pc' := 30) rfl rfl rfl).trans ?_
  refine (op_getR (pc' := 33) rfl rfl (by decide) rfl).trans (op_bind fun n30 => op_ite ?_)
  refine (op_iload (pc' := 35) rfl rfl rfl).trans ?_
  refine (op_iaload (pc' := 36) rfl rfl).trans (op_bind fun n35 => op_ite ?_)
  exact op_icmpeq (pc' := 39) rfl rfl
theorem B_19_39 {d : Nat} {h : am_H} {a0 : Option Nat} {a1 : Option Nat} {a2 : Int32} {a3 : Int32} {a4 : Int32} : Ev (d + 4) 19 39 [vr a0, vr a1, vi a2, vi a3, vi a4] [] h = if 0 = 0 ∨ 0 = 1 then some (some (vi 0), h) else none := by
  refine (op_iconst (pc' := 40) rfl rfl k32_0).trans ?_
  exact op_ireturnZ rfl rfl
theorem B_19_41 {d : Nat} {h : am_H} {a0 : Option Nat} {a1 : Option Nat} {a2 : Int32} {a3 : Int32} {a4 : Int32} : Ev (d + 4) 19 41 [vr a0, vr a1, vi a2, vi a3, vi a4] [] h = Ev (d + 4) 19 15 [vr a0, vr a1, vi a2, vi a3, vi (a4 + 1)] [] h := by
  refine (op_iinc (pc' := 44) (ls' := [vr a0, vr a1, vi a2, vi a3, vi (a4 + 1)]) rfl rfl rfl k32_1 rfl).trans ?_
  refine (op_goto rfl).trans ?_
  rfl
theorem B_19_47 {d : Nat} {h : am_H} {a0 : Option Nat} {a1 : Option Nat} {a2 : Int32} {a3 : Int32} {a4 : Int32} : Ev (d + 4) 19 47 [vr a0, vr a1, vi a2, vi a3, vi a4] [] h = if 1 = 0 ∨ 1 = 1 then some (some (vi 1), h) else none := by
  refine (op_iconst (pc' := 48) rfl rfl k32_1).trans ?_
  exact op_ireturnZ rfl rfl
/-! 20 DrumWorld$Reader.readPart(I)Z -/
theorem E_20 {d : Nat} {h : am_H} {a0 : Option Nat} {a1 : Int32} : Cl d 20 [vr a0, vi a1] h = Ev d 20 0 [vr a0, vi a1] [] h := if_pos (Nat.le_of_ble_eq_true rfl)
theorem B_20_0 {d : Nat} {h : am_H} {a0 : Option Nat} {a1 : Int32} : Ev (d + 4) 20 0 [vr a0, vi a1] [] h = (a0).bind fun n2 => if hkd h n2 = 2 then (Cl (d + 3) 21 [vr a0, vi a1] h).bind fun x => Ev (d + 4) 20 5 [vr a0, vi a1] (x.1.toList ++ []) x.2 else none := by
  refine (op_aload_n (pc' := 1) rfl rfl rfl).trans ?_
  refine (op_iload_n (pc' := 2) rfl rfl rfl).trans ?_
  exact op_virtual (pc' := 5) (m := 2) rfl rfl rfl rfl rfl rfl rfl rfl
theorem B_20_5 {d : Nat} {h : am_H} {a0 : Option Nat} {a1 : Int32} {s0 : Int32} : Ev (d + 4) 20 5 [vr a0, vi a1] [vi s0] h = if s0 = 0 then Ev (d + 4) 20 29 [vr a0, vi a1] [] h else Ev (d + 4) 20 8 [vr a0, vi a1] [] h := by
  exact op_ifeq (pc' := 8) rfl rfl
theorem B_20_8 {d : Nat} {h : am_H} {a0 : Option Nat} {a1 : Int32} : Ev (d + 4) 20 8 [vr a0, vi a1] [] h = (a0).bind fun n10 => if hkd h n10 = 2 then (Cl (d + 3) 22 [vr a0, vi 0] h).bind fun x => Ev (d + 4) 20 13 [vr a0, vi a1] (x.1.toList ++ []) x.2 else none := by
  refine (op_aload_n (pc' := 9) rfl rfl rfl).trans ?_
  refine (op_iconst (pc' := 10) rfl rfl k32_0).trans ?_
  exact op_virtual (pc' := 13) (m := 2) rfl rfl rfl rfl rfl rfl rfl rfl
theorem B_20_13 {d : Nat} {h : am_H} {a0 : Option Nat} {a1 : Int32} {s0 : Int32} : Ev (d + 4) 20 13 [vr a0, vi a1] [vi s0] h = if s0 = 0 then Ev (d + 4) 20 29 [vr a0, vi a1] [] h else Ev (d + 4) 20 16 [vr a0, vi a1] [] h := by
  exact op_ifeq (pc' := 16) rfl rfl
theorem B_20_16 {d : Nat} {h : am_H} {a0 : Option Nat} {a1 : Int32} : Ev (d + 4) 20 16 [vr a0, vi a1] [] h = (a0).bind fun n19 => if hkd h n19 = 2 then (Cl (d + 3) 21 [vr a0, vi 59] h).bind fun x => Ev (d + 4) 20 22 [vr a0, vi a1] (x.1.toList ++ []) x.2 else none := by
  refine (op_aload_n (pc' := 17) rfl rfl rfl).trans ?_
  refine (op_bipush (pc' := 19) rfl rfl k32_59).trans ?_
  exact op_virtual (pc' := 22) (m := 2) rfl rfl rfl rfl rfl rfl rfl rfl
theorem B_20_22 {d : Nat} {h : am_H} {a0 : Option Nat} {a1 : Int32} {s0 : Int32} : Ev (d + 4) 20 22 [vr a0, vi a1] [vi s0] h = if s0 = 0 then Ev (d + 4) 20 29 [vr a0, vi a1] [] h else Ev (d + 4) 20 25 [vr a0, vi a1] [] h := by
  exact op_ifeq (pc' := 25) rfl rfl
theorem B_20_25 {d : Nat} {h : am_H} {a0 : Option Nat} {a1 : Int32} : Ev (d + 4) 20 25 [vr a0, vi a1] [] h = Ev (d + 4) 20 30 [vr a0, vi a1] [vi 1] h := by
  refine (op_iconst (pc' := 26) rfl rfl k32_1).trans ?_
  refine (op_goto rfl).trans ?_
  rfl
theorem B_20_29 {d : Nat} {h : am_H} {a0 : Option Nat} {a1 : Int32} : Ev (d + 4) 20 29 [vr a0, vi a1] [] h = Ev (d + 4) 20 30 [vr a0, vi a1] [vi 0] h := by
  refine (op_iconst (pc' := 30) rfl rfl k32_0).trans ?_
  rfl
theorem B_20_30 {d : Nat} {h : am_H} {a0 : Option Nat} {a1 : Int32} {s0 : Int32} : Ev (d + 4) 20 30 [vr a0, vi a1] [vi s0] h = if s0 = 0 ∨ s0 = 1 then some (some (vi s0), h) else none := by
  exact op_ireturnZ rfl rfl
/-! 100 DrumWorld$Placing.sortByHours()V -/
theorem E_100 {d : Nat} {h : am_H} {a0 : Option Nat} : Cl d 100 [vr a0] h = Ev d 100 0 [vr a0, vu, vu, vu, vu] [] h := if_pos (Nat.le_of_ble_eq_true rfl)
theorem B_100_0 {d : Nat} {h : am_H} {a0 : Option Nat} : Ev (d + 4) 100 0 [vr a0, vu, vu, vu, vu] [] h = Ev (d + 4) 100 2 [vr a0, vi 1, vu, vu, vu] [] h := by
  refine (op_iconst (pc' := 1) rfl rfl k32_1).trans ?_
  refine (op_istore_n (pc' := 2) (ls' := [vr a0, vi 1, vu, vu, vu]) rfl rfl rfl rfl).trans ?_
  rfl
theorem B_100_2 {d : Nat} {h : am_H} {a0 : Option Nat} {a1 : Int32} {a2 : am_V} {a3 : am_V} {a4 : am_V} : Ev (d + 4) 100 2 [vr a0, vi a1, a2, a3, a4] [] h = (a0).bind fun n4 => if hkd h n4 = 4 then if (hI h n4 3) ≤ a1 then Ev (d + 4) 100 105 [vr a0, vi a1, a2, a3, a4] [] h else Ev (d + 4) 100 10 [vr a0, vi a1, a2, a3, a4] [] h else none := by
  refine (op_iload_n (pc' := 3) rfl rfl rfl).trans ?_
  refine (op_aload_n (pc' := 4) rfl rfl rfl).trans ?_
  refine (op_getI (pc' := 7) rfl rfl (by decide) (Or.inl rfl)).trans (op_bind fun n4 => op_ite ?_)
  exact op_icmpge (pc' := 10) rfl rfl
theorem B_100_10 {d : Nat} {h : am_H} {a0 : Option Nat} {a1 : Int32} {a2 : am_V} {a3 : am_V} {a4 : am_V} : Ev (d + 4) 100 10 [vr a0, vi a1, a2, a3, a4] [] h = (a0).bind fun n11 => if hkd h n11 = 4 then ((hR h n11 4)).bind fun n15 => if (hkd h n15 = 100 ∨ hkd h n15 = 901) ∧ am_ix a1 (hln h n15) then (a0).bind fun n18 => if hkd h n18 = 4 then ((hR h n18 5)).bind fun n22 => if (hkd h n22 = 100 ∨ hkd h n22 = 901) ∧ am_ix a1 (hln h n22) then Ev (d + 4) 100 27 [vr a0, vi a1, vi (hI h n15 (Int32.toNatClampNeg a1)), vi (hI h n22 (Int32.toNatClampNeg a1)), vi a1] [] h else none else none else none else none := by
  refine (op_aload_n (pc' := 11) rfl rfl rfl).trans ?_
  refine (op_getR (pc' := 14) rfl rfl (by decide) rfl).trans (op_bind fun n11 => op_ite ?_)
  refine (op_iload_n (pc' := 15) rfl rfl rfl).trans ?_
  refine (op_iaload (pc' := 16) rfl rfl).trans (op_bind fun n15 => op_ite ?_)
  refine (op_istore_n (pc' := 17) (ls' := [vr a0, vi a1, vi (hI h n15 (Int32.toNatClampNeg a1)), a3, a4]) rfl rfl rfl rfl).trans ?_
  refine (op_aload_n (pc' := 18) rfl rfl rfl).trans ?_
  refine (op_getR (pc' := 21) rfl rfl (by decide) rfl).trans (op_bind fun n18 => op_ite ?_)
  refine (op_iload_n (pc' := 22) rfl rfl rfl).trans ?_
  refine (op_iaload (pc' := 23) rfl rfl).trans (op_bind fun n22 => op_ite ?_)
  refine (op_istore_n (pc' := 24) (ls' := [vr a0, vi a1, vi (hI h n15 (Int32.toNatClampNeg a1)), vi (hI h n22 (Int32.toNatClampNeg a1)), a4]) rfl rfl rfl rfl).trans ?_
  refine (op_iload_n (pc' := 25) rfl rfl rfl).trans ?_
  refine (op_istore (pc' := 27) (ls' := [vr a0, vi a1, vi (hI h n15 (Int32.toNatClampNeg a1)), vi (hI h n22 (Int32.toNatClampNeg a1)), vi a1]) rfl rfl rfl rfl).trans ?_
  rfl
theorem B_100_27 {d : Nat} {h : am_H} {a0 : Option Nat} {a1 : Int32} {a2 : Int32} {a3 : Int32} {a4 : Int32} : Ev (d + 4) 100 27 [vr a0, vi a1, vi a2, vi a3, vi a4] [] h = if a4 ≤ 0 then Ev (d + 4) 100 83 [vr a0, vi a1, vi a2, vi a3, vi a4] [] h else Ev (d + 4) 100 32 [vr a0, vi a1, vi a2, vi a3, vi a4] [] h := by
  refine (op_iload (pc' := 29) rfl rfl rfl).trans ?_
  exact op_ifle (pc' := 32) rfl rfl
theorem B_100_32 {d : Nat} {h : am_H} {a0 : Option Nat} {a1 : Int32} {a2 : Int32} {a3 : Int32} {a4 : Int32} : Ev (d + 4) 100 32 [vr a0, vi a1, vi a2, vi a3, vi a4] [] h = (a0).bind fun n33 => if hkd h n33 = 4 then ((hR h n33 5)).bind fun n40 => if (hkd h n40 = 100 ∨ hkd h n40 = 901) ∧ am_ix (a4 - 1) (hln h n40) then if (hI h n40 (Int32.toNatClampNeg (a4 - 1))) ≤ a3 then Ev (d + 4) 100 83 [vr a0, vi a1, vi a2, vi a3, vi a4] [] h else Ev (d + 4) 100 45 [vr a0, vi a1, vi a2, vi a3, vi a4] [] h else none else none := by
  refine (op_aload_n (pc' := 33) rfl rfl rfl).trans ?_
  refine (op_getR (pc' := 36) rfl rfl (by decide) rfl).trans (op_bind fun n33 => op_ite ?_)
  refine (op_iload (pc' := 38) rfl rfl rfl).trans ?_
  refine (op_iconst (pc' := 39) rfl rfl k32_1).trans ?_
  refine (op_isub (pc' := 40) rfl rfl).trans ?_
  refine (op_iaload (pc' := 41) rfl rfl).trans (op_bind fun n40 => op_ite ?_)
  refine (op_iload_n (pc' := 42) rfl rfl rfl).trans ?_
  exact op_icmple (pc' := 45) rfl rfl
theorem B_100_45 {d : Nat} {h : am_H} {a0 : Option Nat} {a1 : Int32} {a2 : Int32} {a3 : Int32} {a4 : Int32} : Ev (d + 4) 100 45 [vr a0, vi a1, vi a2, vi a3, vi a4] [] h = (a0).bind fun n46 => if hkd h n46 = 4 then (a0).bind fun n52 => if hkd h n52 = 4 then ((hR h n52 4)).bind fun n59 => if (hkd h n59 = 100 ∨ hkd h n59 = 901) ∧ am_ix (a4 - 1) (hln h n59) then ((hR h n46 4)).bind fun n60 => if hkd h n60 = 100 ∧ am_ix a4 (hln h n60) then (a0).bind fun n62 => if hkd (setI h n60 (Int32.toNatClampNeg a4) (hI h n59 (Int32.toNatClampNeg (a4 - 1)))) n62 = 4 then (a0).bind fun n68 => if hkd (setI h n60 (Int32.toNatClampNeg a4) (hI h n59 (Int32.toNatClampNeg (a4 - 1)))) n68 = 4 then ((hR (setI h n60 (Int32.toNatClampNeg a4) (hI h n59 (Int32.toNatClampNeg (a4 - 1)))) n68 5)).bind fun n75 => if (hkd (setI h n60 (Int32.toNatClampNeg a4) (hI h n59 (Int32.toNatClampNeg (a4 - 1)))) n75 = 100 ∨ hkd (setI h n60 (Int32.toNatClampNeg a4) (hI h n59 (Int32.toNatClampNeg (a4 - 1)))) n75 = 901) ∧ am_ix (a4 - 1) (hln (setI h n60 (Int32.toNatClampNeg a4) (hI h n59 (Int32.toNatClampNeg (a4 - 1)))) n75) then ((hR (setI h n60 (Int32.toNatClampNeg a4) (hI h n59 (Int32.toNatClampNeg (a4 - 1)))) n62 5)).bind fun n76 => if hkd (setI h n60 (Int32.toNatClampNeg a4) (hI h n59 (Int32.toNatClampNeg (a4 - 1)))) n76 = 100 ∧ am_ix a4 (hln (setI h n60 (Int32.toNatClampNeg a4) (hI h n59 (Int32.toNatClampNeg (a4 - 1)))) n76) then Ev (d + 4) 100 77 [vr a0, vi a1, vi a2, vi a3, vi a4] [] (setI (setI h n60 (Int32.toNatClampNeg a4) (hI h n59 (Int32.toNatClampNeg (a4 - 1)))) n76 (Int32.toNatClampNeg a4) (hI (setI h n60 (Int32.toNatClampNeg a4) (hI h n59 (Int32.toNatClampNeg (a4 - 1)))) n75 (Int32.toNatClampNeg (a4 - 1)))) else none else none else none else none else none else none else none else none := by
  refine (op_aload_n (pc' := 46) rfl rfl rfl).trans ?_
  refine (op_getR (pc' := 49) rfl rfl (by decide) rfl).trans (op_bind fun n46 => op_ite ?_)
  refine (op_iload (pc' := 51) rfl rfl rfl).trans ?_
  refine (op_aload_n (pc' := 52) rfl rfl rfl).trans ?_
  refine (op_getR (pc' := 55) rfl rfl (by decide) rfl).trans (op_bind fun n52 => op_ite ?_)
  refine (op_iload (pc' := 57) rfl rfl rfl).trans ?_
  refine (op_iconst (pc' := 58) rfl rfl k32_1).trans ?_
  refine (op_isub (pc' := 59) rfl rfl).trans ?_
  refine (op_iaload (pc' := 60) rfl rfl).trans (op_bind fun n59 => op_ite ?_)
  refine (op_iastore (pc' := 61) rfl rfl).trans (op_bind fun n60 => op_ite ?_)
  refine (op_aload_n (pc' := 62) rfl rfl rfl).trans ?_
  refine (op_getR (pc' := 65) rfl rfl (by decide) rfl).trans (op_bind fun n62 => op_ite ?_)
  refine (op_iload (pc' := 67) rfl rfl rfl).trans ?_
  refine (op_aload_n (pc' := 68) rfl rfl rfl).trans ?_
  refine (op_getR (pc' := 71) rfl rfl (by decide) rfl).trans (op_bind fun n68 => op_ite ?_)
  refine (op_iload (pc' := 73) rfl rfl rfl).trans ?_
  refine (op_iconst (pc' := 74) rfl rfl k32_1).trans ?_
  refine (op_isub (pc' := 75) rfl rfl).trans ?_
  refine (op_iaload (pc' := 76) rfl rfl).trans (op_bind fun n75 => op_ite ?_)
  refine (op_iastore (pc' := 77) rfl rfl).trans (op_bind fun n76 => op_ite ?_)
  rfl
theorem B_100_77 {d : Nat} {h : am_H} {a0 : Option Nat} {a1 : Int32} {a2 : Int32} {a3 : Int32} {a4 : Int32} : Ev (d + 4) 100 77 [vr a0, vi a1, vi a2, vi a3, vi a4] [] h = Ev (d + 4) 100 27 [vr a0, vi a1, vi a2, vi a3, vi (a4 + (-1))] [] h := by
  refine (op_iinc (pc' := 80) (ls' := [vr a0, vi a1, vi a2, vi a3, vi (a4 + (-1))]) rfl rfl rfl k32_m1 rfl).trans ?_
  refine (op_goto rfl).trans ?_
  rfl
theorem B_100_83 {d : Nat} {h : am_H} {a0 : Option Nat} {a1 : Int32} {a2 : Int32} {a3 : Int32} {a4 : Int32} : Ev (d + 4) 100 83 [vr a0, vi a1, vi a2, vi a3, vi a4] [] h = (a0).bind fun n84 => if hkd h n84 = 4 then ((hR h n84 4)).bind fun n90 => if hkd h n90 = 100 ∧ am_ix a4 (hln h n90) then (a0).bind fun n92 => if hkd (setI h n90 (Int32.toNatClampNeg a4) a2) n92 = 4 then ((hR (setI h n90 (Int32.toNatClampNeg a4) a2) n92 5)).bind fun n98 => if hkd (setI h n90 (Int32.toNatClampNeg a4) a2) n98 = 100 ∧ am_ix a4 (hln (setI h n90 (Int32.toNatClampNeg a4) a2) n98) then Ev (d + 4) 100 99 [vr a0, vi a1, vi a2, vi a3, vi a4] [] (setI (setI h n90 (Int32.toNatClampNeg a4) a2) n98 (Int32.toNatClampNeg a4) a3) else none else none else none else none := by
  refine (op_aload_n (pc' := 84) rfl rfl rfl).trans ?_
  refine (op_getR (pc' := 87) rfl rfl (by decide) rfl).trans (op_bind fun n84 => op_ite ?_)
  refine (op_iload (pc' := 89) rfl rfl rfl).trans ?_
  refine (op_iload_n (pc' := 90) rfl rfl rfl).trans ?_
  refine (op_iastore (pc' := 91) rfl rfl).trans (op_bind fun n90 => op_ite ?_)
  refine (op_aload_n (pc' := 92) rfl rfl rfl).trans ?_
  refine (op_getR (pc' := 95) rfl rfl (by decide) rfl).trans (op_bind fun n92 => op_ite ?_)
  refine (op_iload (pc' := 97) rfl rfl rfl).trans ?_
  refine (op_iload_n (pc' := 98) rfl rfl rfl).trans ?_
  refine (op_iastore (pc' := 99) rfl rfl).trans (op_bind fun n98 => op_ite ?_)
  rfl
theorem B_100_99 {d : Nat} {h : am_H} {a0 : Option Nat} {a1 : Int32} {a2 : Int32} {a3 : Int32} {a4 : Int32} : Ev (d + 4) 100 99 [vr a0, vi a1, vi a2, vi a3, vi a4] [] h = Ev (d + 4) 100 2 [vr a0, vi (a1 + 1), vi a2, vi a3, vi a4] [] h := by
  refine (op_iinc (pc' := 102) (ls' := [vr a0, vi (a1 + 1), vi a2, vi a3, vi a4]) rfl rfl rfl k32_1 rfl).trans ?_
  refine (op_goto rfl).trans ?_
  rfl
theorem B_100_105 {d : Nat} {h : am_H} {a0 : Option Nat} {a1 : Int32} {a2 : am_V} {a3 : am_V} {a4 : am_V} : Ev (d + 4) 100 105 [vr a0, vi a1, a2, a3, a4] [] h = some (none, h) := by
  exact op_return rfl rfl
/-! 101 DrumWorld$Placing.judge(II)V -/
theorem E_101 {d : Nat} {h : am_H} {a0 : Option Nat} {a1 : Int32} {a2 : Int32} : Cl d 101 [vr a0, vi a1, vi a2] h = Ev d 101 0 [vr a0, vi a1, vi a2, vu, vu, vu, vu] [] h := if_pos (Nat.le_of_ble_eq_true rfl)
theorem B_101_0 {d : Nat} {h : am_H} {a0 : Option Nat} {a1 : Int32} {a2 : Int32} : Ev (d + 4) 101 0 [vr a0, vi a1, vi a2, vu, vu, vu, vu] [] h = (a0).bind fun n1 => if hkd h n1 = 4 then (a0).bind fun n5 => if hkd h n5 = 4 then if 2 ≠ 0 then ((hR h n1 5)).bind fun n12 => if (hkd h n12 = 100 ∨ hkd h n12 = 901) ∧ am_ix (((hI h n5 3) - 1) / 2) (hln h n12) then Ev (d + 4) 101 20 [vr a0, vi a1, vi a2, vi (hI h n12 (Int32.toNatClampNeg (((hI h n5 3) - 1) / 2))), vl 0, vu, vi 0] [] h else none else none else none else none := by
  refine (op_aload_n (pc' := 1) rfl rfl rfl).trans ?_
  refine (op_getR (pc' := 4) rfl rfl (by decide) rfl).trans (op_bind fun n1 => op_ite ?_)
  refine (op_aload_n (pc' := 5) rfl rfl rfl).trans ?_
  refine (op_getI (pc' := 8) rfl rfl (by decide) (Or.inl rfl)).trans (op_bind fun n5 => op_ite ?_)
  refine (op_iconst (pc' := 9) rfl rfl k32_1).trans ?_
  refine (op_isub (pc' := 10) rfl rfl).trans ?_
  refine (op_iconst (pc' := 11) rfl rfl k32_2).trans ?_
  refine (op_idiv (pc' := 12) rfl rfl).trans (op_ite ?_)
  refine (op_iaload (pc' := 13) rfl rfl).trans (op_bind fun n12 => op_ite ?_)
  refine (op_istore_n (pc' := 14) (ls' := [vr a0, vi a1, vi a2, vi (hI h n12 (Int32.toNatClampNeg (((hI h n5 3) - 1) / 2))), vu, vu, vu]) rfl rfl rfl rfl).trans ?_
  refine (op_lconst (pc' := 15) rfl rfl k64_0).trans ?_
  refine (op_lstore (pc' := 17) (ls' := [vr a0, vi a1, vi a2, vi (hI h n12 (Int32.toNatClampNeg (((hI h n5 3) - 1) / 2))), vl 0, vu, vu]) rfl rfl rfl rfl).trans ?_
  refine (op_iconst (pc' := 18) rfl rfl k32_0).trans ?_
  refine (op_istore (pc' := 20) (ls' := [vr a0, vi a1, vi a2, vi (hI h n12 (Int32.toNatClampNeg (((hI h n5 3) - 1) / 2))), vl 0, vu, vi 0]) rfl rfl rfl rfl).trans ?_
  rfl
theorem B_101_20 {d : Nat} {h : am_H} {a0 : Option Nat} {a1 : Int32} {a2 : Int32} {a3 : Int32} {a4 : Int64} {a6 : Int32} : Ev (d + 4) 101 20 [vr a0, vi a1, vi a2, vi a3, vl a4, vu, vi a6] [] h = (a0).bind fun n23 => if hkd h n23 = 4 then if (hI h n23 3) ≤ a6 then Ev (d + 4) 101 53 [vr a0, vi a1, vi a2, vi a3, vl a4, vu, vi a6] [] h else Ev (d + 4) 101 29 [vr a0, vi a1, vi a2, vi a3, vl a4, vu, vi a6] [] h else none := by
  refine (op_iload (pc' := 22) rfl rfl rfl).trans ?_
  refine (op_aload_n (pc' := 23) rfl rfl rfl).trans ?_
  refine (op_getI (pc' := 26) rfl rfl (by decide) (Or.inl rfl)).trans (op_bind fun n23 => op_ite ?_)
  exact op_icmpge (pc' := 29) rfl rfl
theorem B_101_29 {d : Nat} {h : am_H} {a0 : Option Nat} {a1 : Int32} {a2 : Int32} {a3 : Int32} {a4 : Int64} {a6 : Int32} : Ev (d + 4) 101 29 [vr a0, vi a1, vi a2, vi a3, vl a4, vu, vi a6] [] h = (a0).bind fun n32 => if hkd h n32 = 4 then ((hR h n32 5)).bind fun n37 => if (hkd h n37 = 100 ∨ hkd h n37 = 901) ∧ am_ix a6 (hln h n37) then (am_prim 9006 [vi ((hI h n37 (Int32.toNatClampNeg a6)) - a3)] h).bind fun x => Ev (d + 4) 101 43 [vr a0, vi a1, vi a2, vi a3, vl a4, vu, vi a6] (x.1.toList ++ [vl a4]) x.2 else none else none := by
  refine (op_lload (pc' := 31) rfl rfl rfl).trans ?_
  refine (op_aload_n (pc' := 32) rfl rfl rfl).trans ?_
  refine (op_getR (pc' := 35) rfl rfl (by decide) rfl).trans (op_bind fun n32 => op_ite ?_)
  refine (op_iload (pc' := 37) rfl rfl rfl).trans ?_
  refine (op_iaload (pc' := 38) rfl rfl).trans (op_bind fun n37 => op_ite ?_)
  refine (op_iload_n (pc' := 39) rfl rfl rfl).trans ?_
  refine (op_isub (pc' := 40) rfl rfl).trans ?_
  exact op_staticP (pc' := 43) rfl rfl rfl rfl rfl rfl
theorem B_101_43 {d : Nat} {h : am_H} {a0 : Option Nat} {a1 : Int32} {a2 : Int32} {a3 : Int32} {a4 : Int64} {a6 : Int32} {s0 : Int32} {s1 : Int64} : Ev (d + 4) 101 43 [vr a0, vi a1, vi a2, vi a3, vl a4, vu, vi a6] [vi s0, vl s1] h = Ev (d + 4) 101 20 [vr a0, vi a1, vi a2, vi a3, vl (s1 + (Int32.toInt64 s0)), vu, vi (a6 + 1)] [] h := by
  refine (op_i2l (pc' := 44) rfl rfl).trans ?_
  refine (op_ladd (pc' := 45) rfl rfl).trans ?_
  refine (op_lstore (pc' := 47) (ls' := [vr a0, vi a1, vi a2, vi a3, vl (s1 + (Int32.toInt64 s0)), vu, vi a6]) rfl rfl rfl rfl).trans ?_
  refine (op_iinc (pc' := 50) (ls' := [vr a0, vi a1, vi a2, vi a3, vl (s1 + (Int32.toInt64 s0)), vu, vi (a6 + 1)]) rfl rfl rfl k32_1 rfl).trans ?_
  refine (op_goto rfl).trans ?_
  rfl
theorem B_101_53 {d : Nat} {h : am_H} {a0 : Option Nat} {a1 : Int32} {a2 : Int32} {a3 : Int32} {a4 : Int64} {a6 : Int32} : Ev (d + 4) 101 53 [vr a0, vi a1, vi a2, vi a3, vl a4, vu, vi a6] [] h = (a0).bind fun n54 => if hkd h n54 = 4 then if (hI h n54 8) = 0 then Ev (d + 4) 101 88 [vr a0, vi a1, vi a2, vi a3, vl a4, vu, vi a6] [] h else Ev (d + 4) 101 60 [vr a0, vi a1, vi a2, vi a3, vl a4, vu, vi a6] [] h else none := by
  refine (op_aload_n (pc' := 54) rfl rfl rfl).trans ?_
  refine (op_getI (pc' := 57) rfl rfl (by decide) (Or.inr rfl)).trans (op_bind fun n54 => op_ite ?_)
  exact op_ifeq (pc' := 60) rfl rfl
theorem B_101_60 {d : Nat} {h : am_H} {a0 : Option Nat} {a1 : Int32} {a2 : Int32} {a3 : Int32} {a4 : Int64} {a6 : Int32} : Ev (d + 4) 101 60 [vr a0, vi a1, vi a2, vi a3, vl a4, vu, vi a6] [] h = (a0).bind fun n63 => if hkd h n63 = 4 then if (lg_cmp a4 (hL h n63 12)) < 0 then Ev (d + 4) 101 88 [vr a0, vi a1, vi a2, vi a3, vl a4, vu, vi a6] [] h else Ev (d + 4) 101 70 [vr a0, vi a1, vi a2, vi a3, vl a4, vu, vi a6] [] h else none := by
  refine (op_lload (pc' := 62) rfl rfl rfl).trans ?_
  refine (op_aload_n (pc' := 63) rfl rfl rfl).trans ?_
  refine (op_getL (pc' := 66) rfl rfl (by decide) rfl).trans (op_bind fun n63 => op_ite ?_)
  refine (op_lcmp (pc' := 67) rfl rfl).trans ?_
  exact op_iflt (pc' := 70) rfl rfl
theorem B_101_70 {d : Nat} {h : am_H} {a0 : Option Nat} {a1 : Int32} {a2 : Int32} {a3 : Int32} {a4 : Int64} {a6 : Int32} : Ev (d + 4) 101 70 [vr a0, vi a1, vi a2, vi a3, vl a4, vu, vi a6] [] h = (a0).bind fun n73 => if hkd h n73 = 4 then if (lg_cmp a4 (hL h n73 12)) ≠ 0 then Ev (d + 4) 101 114 [vr a0, vi a1, vi a2, vi a3, vl a4, vu, vi a6] [] h else Ev (d + 4) 101 80 [vr a0, vi a1, vi a2, vi a3, vl a4, vu, vi a6] [] h else none := by
  refine (op_lload (pc' := 72) rfl rfl rfl).trans ?_
  refine (op_aload_n (pc' := 73) rfl rfl rfl).trans ?_
  refine (op_getL (pc' := 76) rfl rfl (by decide) rfl).trans (op_bind fun n73 => op_ite ?_)
  refine (op_lcmp (pc' := 77) rfl rfl).trans ?_
  exact op_ifne (pc' := 80) rfl rfl
theorem B_101_80 {d : Nat} {h : am_H} {a0 : Option Nat} {a1 : Int32} {a2 : Int32} {a3 : Int32} {a4 : Int64} {a6 : Int32} : Ev (d + 4) 101 80 [vr a0, vi a1, vi a2, vi a3, vl a4, vu, vi a6] [] h = (a0).bind fun n82 => if hkd h n82 = 4 then if (hI h n82 9) ≤ a1 then Ev (d + 4) 101 114 [vr a0, vi a1, vi a2, vi a3, vl a4, vu, vi a6] [] h else Ev (d + 4) 101 88 [vr a0, vi a1, vi a2, vi a3, vl a4, vu, vi a6] [] h else none := by
  refine (op_iload_n (pc' := 81) rfl rfl rfl).trans ?_
  refine (op_aload_n (pc' := 82) rfl rfl rfl).trans ?_
  refine (op_getI (pc' := 85) rfl rfl (by decide) (Or.inl rfl)).trans (op_bind fun n82 => op_ite ?_)
  exact op_icmpge (pc' := 88) rfl rfl
theorem B_101_88 {d : Nat} {h : am_H} {a0 : Option Nat} {a1 : Int32} {a2 : Int32} {a3 : Int32} {a4 : Int64} {a6 : Int32} : Ev (d + 4) 101 88 [vr a0, vi a1, vi a2, vi a3, vl a4, vu, vi a6] [] h = (a0).bind fun n90 => if hkd h n90 = 4 ∧ (1 = 0 ∨ 1 = 1) then (a0).bind fun n95 => if hkd (setI h n90 8 1) n95 = 4 then Ev (d + 4) 101 98 [vr a0, vi a1, vi a2, vi a3, vl a4, vu, vi a6] [] (setI (setI h n90 8 1) n95 9 a1) else none else none := by
  refine (op_aload_n (pc' := 89) rfl rfl rfl).trans ?_
  refine (op_iconst (pc' := 90) rfl rfl k32_1).trans ?_
  refine (op_putZ (pc' := 93) rfl rfl rfl).trans (op_bind fun n90 => op_ite ?_)
  refine (op_aload_n (pc' := 94) rfl rfl rfl).trans ?_
  refine (op_iload_n (pc' := 95) rfl rfl rfl).trans ?_
  refine (op_putI (pc' := 98) rfl rfl rfl).trans (op_bind fun n95 => op_ite ?_)
  rfl
theorem B_101_98 {d : Nat} {h : am_H} {a0 : Option Nat} {a1 : Int32} {a2 : Int32} {a3 : Int32} {a4 : Int64} {a6 : Int32} : Ev (d + 4) 101 98 [vr a0, vi a1, vi a2, vi a3, vl a4, vu, vi a6] [] h = (a0).bind fun n100 => if hkd h n100 = 4 then (a0).bind fun n105 => if hkd (setI h n100 10 a2) n105 = 4 then Ev (d + 4) 101 108 [vr a0, vi a1, vi a2, vi a3, vl a4, vu, vi a6] [] (setI (setI h n100 10 a2) n105 11 a3) else none else none := by
  refine (op_aload_n (pc' := 99) rfl rfl rfl).trans ?_
  refine (op_iload_n (pc' := 100) rfl rfl rfl).trans ?_
  refine (op_putI (pc' := 103) rfl rfl rfl).trans (op_bind fun n100 => op_ite ?_)
  refine (op_aload_n (pc' := 104) rfl rfl rfl).trans ?_
  refine (op_iload_n (pc' := 105) rfl rfl rfl).trans ?_
  refine (op_putI (pc' := 108) rfl rfl rfl).trans (op_bind fun n105 => op_ite ?_)
  rfl
theorem B_101_108 {d : Nat} {h : am_H} {a0 : Option Nat} {a1 : Int32} {a2 : Int32} {a3 : Int32} {a4 : Int64} {a6 : Int32} : Ev (d + 4) 101 108 [vr a0, vi a1, vi a2, vi a3, vl a4, vu, vi a6] [] h = (a0).bind fun n111 => if hkd h n111 = 4 then Ev (d + 4) 101 114 [vr a0, vi a1, vi a2, vi a3, vl a4, vu, vi a6] [] (setL h n111 12 a4) else none := by
  refine (op_aload_n (pc' := 109) rfl rfl rfl).trans ?_
  refine (op_lload (pc' := 111) rfl rfl rfl).trans ?_
  refine (op_putL (pc' := 114) rfl rfl rfl).trans (op_bind fun n111 => op_ite ?_)
  rfl
theorem B_101_114 {d : Nat} {h : am_H} {a0 : Option Nat} {a1 : Int32} {a2 : Int32} {a3 : Int32} {a4 : Int64} {a6 : Int32} : Ev (d + 4) 101 114 [vr a0, vi a1, vi a2, vi a3, vl a4, vu, vi a6] [] h = some (none, h) := by
  exact op_return rfl rfl
/-! 150 DrumWorldModel.due(III)I -/
theorem E_150 {d : Nat} {h : am_H} {a0 : Option Nat} {a1 : Int32} {a2 : Int32} {a3 : Int32} : Cl d 150 [vr a0, vi a1, vi a2, vi a3] h = Ev d 150 0 [vr a0, vi a1, vi a2, vi a3] [] h := if_pos (Nat.le_of_ble_eq_true rfl)
theorem B_150_0 {d : Nat} {h : am_H} {a0 : Option Nat} {a1 : Int32} {a2 : Int32} {a3 : Int32} : Ev (d + 4) 150 0 [vr a0, vi a1, vi a2, vi a3] [] h = (Cl (d + 3) 148 [vi a1, vi 0, vi 5] h).bind fun x => Ev (d + 4) 150 6 [vr a0, vi a1, vi a2, vi a3] (x.1.toList ++ []) x.2 := by
  refine (op_iload_n (pc' := 1) rfl rfl rfl).trans ?_
  refine (op_iconst (pc' := 2) rfl rfl k32_0).trans ?_
  refine (op_iconst (pc' := 3) rfl rfl k32_5).trans ?_
  exact op_static (pc' := 6) rfl rfl rfl rfl rfl rfl
theorem B_150_6 {d : Nat} {h : am_H} {a0 : Option Nat} {a1 : Int32} {a2 : Int32} {a3 : Int32} {s0 : Int32} : Ev (d + 4) 150 6 [vr a0, vi a1, vi a2, vi a3] [vi s0] h = if s0 ≠ 0 then Ev (d + 4) 150 12 [vr a0, vi a1, vi a2, vi a3] [] h else Ev (d + 4) 150 9 [vr a0, vi a1, vi a2, vi a3] [] h := by
  exact op_ifne (pc' := 9) rfl rfl
theorem B_150_9 {d : Nat} {h : am_H} {a0 : Option Nat} {a1 : Int32} {a2 : Int32} {a3 : Int32} : Ev (d + 4) 150 9 [vr a0, vi a1, vi a2, vi a3] [] h = some (some (vi (-5)), h) := by
  refine (op_bipush (pc' := 11) rfl rfl k32_m5).trans ?_
  exact op_ireturnI rfl rfl
theorem B_150_12 {d : Nat} {h : am_H} {a0 : Option Nat} {a1 : Int32} {a2 : Int32} {a3 : Int32} : Ev (d + 4) 150 12 [vr a0, vi a1, vi a2, vi a3] [] h = (Cl (d + 3) 148 [vi a2, vi 0, vi 180] h).bind fun x => Ev (d + 4) 150 20 [vr a0, vi a1, vi a2, vi a3] (x.1.toList ++ []) x.2 := by
  refine (op_iload_n (pc' := 13) rfl rfl rfl).trans ?_
  refine (op_iconst (pc' := 14) rfl rfl k32_0).trans ?_
  refine (op_sipush (pc' := 17) rfl rfl k32_180).trans ?_
  exact op_static (pc' := 20) rfl rfl rfl rfl rfl rfl
theorem B_150_20 {d : Nat} {h : am_H} {a0 : Option Nat} {a1 : Int32} {a2 : Int32} {a3 : Int32} {s0 : Int32} : Ev (d + 4) 150 20 [vr a0, vi a1, vi a2, vi a3] [vi s0] h = if s0 = 0 then Ev (d + 4) 150 43 [vr a0, vi a1, vi a2, vi a3] [] h else Ev (d + 4) 150 23 [vr a0, vi a1, vi a2, vi a3] [] h := by
  exact op_ifeq (pc' := 23) rfl rfl
theorem B_150_23 {d : Nat} {h : am_H} {a0 : Option Nat} {a1 : Int32} {a2 : Int32} {a3 : Int32} : Ev (d + 4) 150 23 [vr a0, vi a1, vi a2, vi a3] [] h = (Cl (d + 3) 148 [vi a3, vi 0, vi 99] h).bind fun x => Ev (d + 4) 150 30 [vr a0, vi a1, vi a2, vi a3] (x.1.toList ++ []) x.2 := by
  refine (op_iload_n (pc' := 24) rfl rfl rfl).trans ?_
  refine (op_iconst (pc' := 25) rfl rfl k32_0).trans ?_
  refine (op_bipush (pc' := 27) rfl rfl k32_99).trans ?_
  exact op_static (pc' := 30) rfl rfl rfl rfl rfl rfl
theorem B_150_30 {d : Nat} {h : am_H} {a0 : Option Nat} {a1 : Int32} {a2 : Int32} {a3 : Int32} {s0 : Int32} : Ev (d + 4) 150 30 [vr a0, vi a1, vi a2, vi a3] [vi s0] h = if s0 = 0 then Ev (d + 4) 150 43 [vr a0, vi a1, vi a2, vi a3] [] h else Ev (d + 4) 150 33 [vr a0, vi a1, vi a2, vi a3] [] h := by
  exact op_ifeq (pc' := 33) rfl rfl
theorem B_150_33 {d : Nat} {h : am_H} {a0 : Option Nat} {a1 : Int32} {a2 : Int32} {a3 : Int32} : Ev (d + 4) 150 33 [vr a0, vi a1, vi a2, vi a3] [] h = (a0).bind fun n37 => if hkd h n37 = 11 then (Cl (d + 3) 151 [vr a0, vi a1, vi a2, vi a3] h).bind fun x => Ev (d + 4) 150 40 [vr a0, vi a1, vi a2, vi a3] (x.1.toList ++ []) x.2 else none := by
  refine (op_aload_n (pc' := 34) rfl rfl rfl).trans ?_
  refine (op_iload_n (pc' := 35) rfl rfl rfl).trans ?_
  refine (op_iload_n (pc' := 36) rfl rfl rfl).trans ?_
  refine (op_iload_n (pc' := 37) rfl rfl rfl).trans ?_
  exact op_virtual (pc' := 40) (m := 11) rfl rfl rfl rfl rfl rfl rfl rfl
theorem B_150_40 {d : Nat} {h : am_H} {a0 : Option Nat} {a1 : Int32} {a2 : Int32} {a3 : Int32} {s0 : Int32} : Ev (d + 4) 150 40 [vr a0, vi a1, vi a2, vi a3] [vi s0] h = Ev (d + 4) 150 45 [vr a0, vi a1, vi a2, vi a3] [vi s0] h := by
  refine (op_goto rfl).trans ?_
  rfl
theorem B_150_43 {d : Nat} {h : am_H} {a0 : Option Nat} {a1 : Int32} {a2 : Int32} {a3 : Int32} : Ev (d + 4) 150 43 [vr a0, vi a1, vi a2, vi a3] [] h = Ev (d + 4) 150 45 [vr a0, vi a1, vi a2, vi a3] [vi (-2)] h := by
  refine (op_bipush (pc' := 45) rfl rfl k32_m2).trans ?_
  rfl
theorem B_150_45 {d : Nat} {h : am_H} {a0 : Option Nat} {a1 : Int32} {a2 : Int32} {a3 : Int32} {s0 : Int32} : Ev (d + 4) 150 45 [vr a0, vi a1, vi a2, vi a3] [vi s0] h = some (some (vi s0), h) := by
  exact op_ireturnI rfl rfl
/-! 200 DrumWorldModel.refit(II)J -/
theorem E_200 {d : Nat} {h : am_H} {a0 : Option Nat} {a1 : Int32} {a2 : Int32} : Cl d 200 [vr a0, vi a1, vi a2] h = Ev d 200 0 [vr a0, vi a1, vi a2, vu, vu, vu, vu, vu, vu, vu, vu] [] h := if_pos (Nat.le_of_ble_eq_true rfl)
theorem B_200_0 {d : Nat} {h : am_H} {a0 : Option Nat} {a1 : Int32} {a2 : Int32} : Ev (d + 4) 200 0 [vr a0, vi a1, vi a2, vu, vu, vu, vu, vu, vu, vu, vu] [] h = (a0).bind fun n2 => if hkd h n2 = 11 then (Cl (d + 3) 168 [vr a0, vi a1] h).bind fun x => Ev (d + 4) 200 5 [vr a0, vi a1, vi a2, vu, vu, vu, vu, vu, vu, vu, vu] (x.1.toList ++ []) x.2 else none := by
  refine (op_aload_n (pc' := 1) rfl rfl rfl).trans ?_
  refine (op_iload_n (pc' := 2) rfl rfl rfl).trans ?_
  exact op_virtual (pc' := 5) (m := 11) rfl rfl rfl rfl rfl rfl rfl rfl
theorem B_200_5 {d : Nat} {h : am_H} {a0 : Option Nat} {a1 : Int32} {a2 : Int32} {s0 : Int32} : Ev (d + 4) 200 5 [vr a0, vi a1, vi a2, vu, vu, vu, vu, vu, vu, vu, vu] [vi s0] h = if s0 = 0 then Ev (d + 4) 200 19 [vr a0, vi a1, vi a2, vu, vu, vu, vu, vu, vu, vu, vu] [] h else Ev (d + 4) 200 8 [vr a0, vi a1, vi a2, vu, vu, vu, vu, vu, vu, vu, vu] [] h := by
  exact op_ifeq (pc' := 8) rfl rfl
theorem B_200_8 {d : Nat} {h : am_H} {a0 : Option Nat} {a1 : Int32} {a2 : Int32} : Ev (d + 4) 200 8 [vr a0, vi a1, vi a2, vu, vu, vu, vu, vu, vu, vu, vu] [] h = (Cl (d + 3) 148 [vi a2, vi 1, vi 99999] h).bind fun x => Ev (d + 4) 200 16 [vr a0, vi a1, vi a2, vu, vu, vu, vu, vu, vu, vu, vu] (x.1.toList ++ []) x.2 := by
  refine (op_iload_n (pc' := 9) rfl rfl rfl).trans ?_
  refine (op_iconst (pc' := 10) rfl rfl k32_1).trans ?_
  refine (op_ldc_w (pc' := 13) rfl rfl k32_99999).trans ?_
  exact op_static (pc' := 16) rfl rfl rfl rfl rfl rfl
theorem B_200_16 {d : Nat} {h : am_H} {a0 : Option Nat} {a1 : Int32} {a2 : Int32} {s0 : Int32} : Ev (d + 4) 200 16 [vr a0, vi a1, vi a2, vu, vu, vu, vu, vu, vu, vu, vu] [vi s0] h = if s0 ≠ 0 then Ev (d + 4) 200 23 [vr a0, vi a1, vi a2, vu, vu, vu, vu, vu, vu, vu, vu] [] h else Ev (d + 4) 200 19 [vr a0, vi a1, vi a2, vu, vu, vu, vu, vu, vu, vu, vu] [] h := by
  exact op_ifne (pc' := 19) rfl rfl
theorem B_200_19 {d : Nat} {h : am_H} {a0 : Option Nat} {a1 : Int32} {a2 : Int32} : Ev (d + 4) 200 19 [vr a0, vi a1, vi a2, vu, vu, vu, vu, vu, vu, vu, vu] [] h = some (some (vl (-4611686018427387904)), h) := by
  refine (op_ldc2_w (pc' := 22) rfl rfl k64_m4611686018427387904).trans ?_
  exact op_lreturn rfl rfl
theorem B_200_23 {d : Nat} {h : am_H} {a0 : Option Nat} {a1 : Int32} {a2 : Int32} : Ev (d + 4) 200 23 [vr a0, vi a1, vi a2, vu, vu, vu, vu, vu, vu, vu, vu] [] h = (a0).bind fun n26 => if hkd h n26 = 11 then (Cl (d + 3) 201 [vr a0, vi a1, vi a2] h).bind fun x => Ev (d + 4) 200 29 [vr a0, vi a1, vi a2, vu, vu, vu, vu, vu, vu, vu, vu] (x.1.toList ++ []) x.2 else none := by
  refine (op_aload_n (pc' := 24) rfl rfl rfl).trans ?_
  refine (op_iload_n (pc' := 25) rfl rfl rfl).trans ?_
  refine (op_iload_n (pc' := 26) rfl rfl rfl).trans ?_
  exact op_virtual (pc' := 29) (m := 11) rfl rfl rfl rfl rfl rfl rfl rfl
theorem B_200_29 {d : Nat} {h : am_H} {a0 : Option Nat} {a1 : Int32} {a2 : Int32} {s0 : Int64} : Ev (d + 4) 200 29 [vr a0, vi a1, vi a2, vu, vu, vu, vu, vu, vu, vu, vu] [vl s0] h = (a0).bind fun n32 => if hkd h n32 = 11 then (a0).bind fun n37 => if hkd (setI h n32 27 (-1)) n37 = 11 then Ev (d + 4) 200 40 [vr a0, vi a1, vi a2, vl s0, vu, vu, vu, vu, vu, vu, vu] [] (setI (setI h n32 27 (-1)) n37 28 (-1)) else none else none := by
  refine (op_lstore_n (pc' := 30) (ls' := [vr a0, vi a1, vi a2, vl s0, vu, vu, vu, vu, vu, vu, vu]) rfl rfl rfl rfl).trans ?_
  refine (op_aload_n (pc' := 31) rfl rfl rfl).trans ?_
  refine (op_iconst (pc' := 32) rfl rfl k32_m1).trans ?_
  refine (op_putI (pc' := 35) rfl rfl rfl).trans (op_bind fun n32 => op_ite ?_)
  refine (op_aload_n (pc' := 36) rfl rfl rfl).trans ?_
  refine (op_iconst (pc' := 37) rfl rfl k32_m1).trans ?_
  refine (op_putI (pc' := 40) rfl rfl rfl).trans (op_bind fun n37 => op_ite ?_)
  rfl
theorem B_200_40 {d : Nat} {h : am_H} {a0 : Option Nat} {a1 : Int32} {a2 : Int32} {a3 : Int64} : Ev (d + 4) 200 40 [vr a0, vi a1, vi a2, vl a3, vu, vu, vu, vu, vu, vu, vu] [] h = (a0).bind fun n42 => if hkd h n42 = 11 then Ev (d + 4) 200 48 [vr a0, vi a1, vi a2, vl a3, vu, vi 0, vu, vu, vu, vu, vu] [] (setI h n42 29 (-1)) else none := by
  refine (op_aload_n (pc' := 41) rfl rfl rfl).trans ?_
  refine (op_iconst (pc' := 42) rfl rfl k32_m1).trans ?_
  refine (op_putI (pc' := 45) rfl rfl rfl).trans (op_bind fun n42 => op_ite ?_)
  refine (op_iconst (pc' := 46) rfl rfl k32_0).trans ?_
  refine (op_istore (pc' := 48) (ls' := [vr a0, vi a1, vi a2, vl a3, vu, vi 0, vu, vu, vu, vu, vu]) rfl rfl rfl rfl).trans ?_
  rfl
theorem B_200_48 {d : Nat} {h : am_H} {a0 : Option Nat} {a1 : Int32} {a2 : Int32} {a3 : Int64} {a5 : Int32} {a6 : am_V} {a7 : am_V} {a8 : am_V} {a9 : am_V} : Ev (d + 4) 200 48 [vr a0, vi a1, vi a2, vl a3, vu, vi a5, a6, a7, a8, a9, vu] [] h = (a0).bind fun n51 => if hkd h n51 = 11 then if (hI h n51 1) ≤ a5 then Ev (d + 4) 200 181 [vr a0, vi a1, vi a2, vl a3, vu, vi a5, a6, a7, a8, a9, vu] [] h else Ev (d + 4) 200 57 [vr a0, vi a1, vi a2, vl a3, vu, vi a5, a6, a7, a8, a9, vu] [] h else none := by
  refine (op_iload (pc' := 50) rfl rfl rfl).trans ?_
  refine (op_aload_n (pc' := 51) rfl rfl rfl).trans ?_
  refine (op_getI (pc' := 54) rfl rfl (by decide) (Or.inl rfl)).trans (op_bind fun n51 => op_ite ?_)
  exact op_icmpge (pc' := 57) rfl rfl
theorem B_200_57 {d : Nat} {h : am_H} {a0 : Option Nat} {a1 : Int32} {a2 : Int32} {a3 : Int64} {a5 : Int32} {a6 : am_V} {a7 : am_V} {a8 : am_V} {a9 : am_V} : Ev (d + 4) 200 57 [vr a0, vi a1, vi a2, vl a3, vu, vi a5, a6, a7, a8, a9, vu] [] h = Ev (d + 4) 200 60 [vr a0, vi a1, vi a2, vl a3, vu, vi a5, vi 0, a7, a8, a9, vu] [] h := by
  refine (op_iconst (pc' := 58) rfl rfl k32_0).trans ?_
  refine (op_istore (pc' := 60) (ls' := [vr a0, vi a1, vi a2, vl a3, vu, vi a5, vi 0, a7, a8, a9, vu]) rfl rfl rfl rfl).trans ?_
  rfl
theorem B_200_60 {d : Nat} {h : am_H} {a0 : Option Nat} {a1 : Int32} {a2 : Int32} {a3 : Int64} {a5 : Int32} {a6 : Int32} {a7 : am_V} {a8 : am_V} {a9 : am_V} : Ev (d + 4) 200 60 [vr a0, vi a1, vi a2, vl a3, vu, vi a5, vi a6, a7, a8, a9, vu] [] h = if 2 ≤ a6 then Ev (d + 4) 200 175 [vr a0, vi a1, vi a2, vl a3, vu, vi a5, vi a6, a7, a8, a9, vu] [] h else Ev (d + 4) 200 66 [vr a0, vi a1, vi a2, vl a3, vu, vi a5, vi a6, a7, a8, a9, vu] [] h := by
  refine (op_iload (pc' := 62) rfl rfl rfl).trans ?_
  refine (op_iconst (pc' := 63) rfl rfl k32_2).trans ?_
  exact op_icmpge (pc' := 66) rfl rfl
theorem B_200_66 {d : Nat} {h : am_H} {a0 : Option Nat} {a1 : Int32} {a2 : Int32} {a3 : Int64} {a5 : Int32} {a6 : Int32} {a7 : am_V} {a8 : am_V} {a9 : am_V} : Ev (d + 4) 200 66 [vr a0, vi a1, vi a2, vl a3, vu, vi a5, vi a6, a7, a8, a9, vu] [] h = (a0).bind fun n67 => if hkd h n67 = 11 then ((hR h n67 3)).bind fun n77 => if (hkd h n77 = 100 ∨ hkd h n77 = 901) ∧ am_ix ((5 * a6) + a5) (hln h n77) then if a6 ≠ 0 then Ev (d + 4) 200 89 [vr a0, vi a1, vi a2, vl a3, vu, vi a5, vi a6, vi (hI h n77 (Int32.toNatClampNeg ((5 * a6) + a5))), a8, a9, vu] [] h else Ev (d + 4) 200 85 [vr a0, vi a1, vi a2, vl a3, vu, vi a5, vi a6, vi (hI h n77 (Int32.toNatClampNeg ((5 * a6) + a5))), a8, a9, vu] [] h else none else none := by
  refine (op_aload_n (pc' := 67) rfl rfl rfl).trans ?_
  refine (op_getR (pc' := 70) rfl rfl (by decide) rfl).trans (op_bind fun n67 => op_ite ?_)
  refine (op_iconst (pc' := 71) rfl rfl k32_5).trans ?_
  refine (op_iload (pc' := 73) rfl rfl rfl).trans ?_
  refine (op_imul (pc' := 74) rfl rfl).trans ?_
  refine (op_iload (pc' := 76) rfl rfl rfl).trans ?_
  refine (op_iadd (pc' := 77) rfl rfl).trans ?_
  refine (op_iaload (pc' := 78) rfl rfl).trans (op_bind fun n77 => op_ite ?_)
  refine (op_istore (pc' := 80) (ls' := [vr a0, vi a1, vi a2, vl a3, vu, vi a5, vi a6, vi (hI h n77 (Int32.toNatClampNeg ((5 * a6) + a5))), a8, a9, vu]) rfl rfl rfl rfl).trans ?_
  refine (op_iload (pc' := 82) rfl rfl rfl).trans ?_
  exact op_ifne (pc' := 85) rfl rfl
theorem B_200_85 {d : Nat} {h : am_H} {a0 : Option Nat} {a1 : Int32} {a2 : Int32} {a3 : Int64} {a5 : Int32} {a6 : Int32} {a7 : Int32} {a8 : am_V} {a9 : am_V} : Ev (d + 4) 200 85 [vr a0, vi a1, vi a2, vl a3, vu, vi a5, vi a6, vi a7, a8, a9, vu] [] h = Ev (d + 4) 200 90 [vr a0, vi a1, vi a2, vl a3, vu, vi a5, vi a6, vi a7, a8, a9, vu] [vi 1] h := by
  refine (op_iconst (pc' := 86) rfl rfl k32_1).trans ?_
  refine (op_goto rfl).trans ?_
  rfl
theorem B_200_89 {d : Nat} {h : am_H} {a0 : Option Nat} {a1 : Int32} {a2 : Int32} {a3 : Int64} {a5 : Int32} {a6 : Int32} {a7 : Int32} {a8 : am_V} {a9 : am_V} : Ev (d + 4) 200 89 [vr a0, vi a1, vi a2, vl a3, vu, vi a5, vi a6, vi a7, a8, a9, vu] [] h = Ev (d + 4) 200 90 [vr a0, vi a1, vi a2, vl a3, vu, vi a5, vi a6, vi a7, a8, a9, vu] [vi 0] h := by
  refine (op_iconst (pc' := 90) rfl rfl k32_0).trans ?_
  rfl
theorem B_200_90 {d : Nat} {h : am_H} {a0 : Option Nat} {a1 : Int32} {a2 : Int32} {a3 : Int64} {a5 : Int32} {a6 : Int32} {a7 : Int32} {a8 : am_V} {a9 : am_V} {s0 : Int32} : Ev (d + 4) 200 90 [vr a0, vi a1, vi a2, vl a3, vu, vi a5, vi a6, vi a7, a8, a9, vu] [vi s0] h = Ev (d + 4) 200 92 [vr a0, vi a1, vi a2, vl a3, vu, vi a5, vi a6, vi a7, vi s0, a9, vu] [] h := by
  refine (op_istore (pc' := 92) (ls' := [vr a0, vi a1, vi a2, vl a3, vu, vi a5, vi a6, vi a7, vi s0, a9, vu]) rfl rfl rfl rfl).trans ?_
  rfl
theorem B_200_92 {d : Nat} {h : am_H} {a0 : Option Nat} {a1 : Int32} {a2 : Int32} {a3 : Int64} {a5 : Int32} {a6 : Int32} {a7 : Int32} {a8 : Int32} {a9 : am_V} : Ev (d + 4) 200 92 [vr a0, vi a1, vi a2, vl a3, vu, vi a5, vi a6, vi a7, vi a8, a9, vu] [] h = if 100 ≤ a8 then Ev (d + 4) 200 155 [vr a0, vi a1, vi a2, vl a3, vu, vi a5, vi a6, vi a7, vi a8, a9, vu] [] h else Ev (d + 4) 200 99 [vr a0, vi a1, vi a2, vl a3, vu, vi a5, vi a6, vi a7, vi a8, a9, vu] [] h := by
  refine (op_iload (pc' := 94) rfl rfl rfl).trans ?_
  refine (op_bipush (pc' := 96) rfl rfl k32_100).trans ?_
  exact op_icmpge (pc' := 99) rfl rfl
theorem B_200_99 {d : Nat} {h : am_H} {a0 : Option Nat} {a1 : Int32} {a2 : Int32} {a3 : Int64} {a5 : Int32} {a6 : Int32} {a7 : Int32} {a8 : Int32} {a9 : am_V} : Ev (d + 4) 200 99 [vr a0, vi a1, vi a2, vl a3, vu, vi a5, vi a6, vi a7, vi a8, a9, vu] [] h = (a0).bind fun n100 => if hkd h n100 = 11 then ((hR h n100 3)).bind fun n112 => if hkd h n112 = 100 ∧ am_ix ((5 * a6) + a5) (hln h n112) then (a0).bind fun n116 => if hkd (setI h n112 (Int32.toNatClampNeg ((5 * a6) + a5)) a8) n116 = 11 then (Cl (d + 3) 201 [vr a0, vi a1, vi a2] (setI h n112 (Int32.toNatClampNeg ((5 * a6) + a5)) a8)).bind fun x => Ev (d + 4) 200 119 [vr a0, vi a1, vi a2, vl a3, vu, vi a5, vi a6, vi a7, vi a8, a9, vu] (x.1.toList ++ []) x.2 else none else none else none := by
  refine (op_aload_n (pc' := 100) rfl rfl rfl).trans ?_
  refine (op_getR (pc' := 103) rfl rfl (by decide) rfl).trans (op_bind fun n100 => op_ite ?_)
  refine (op_iconst (pc' := 104) rfl rfl k32_5).trans ?_
  refine (op_iload (pc' := 106) rfl rfl rfl).trans ?_
  refine (op_imul (pc' := 107) rfl rfl).trans ?_
  refine (op_iload (pc' := 109) rfl rfl rfl).trans ?_
  refine (op_iadd (pc' := 110) rfl rfl).trans ?_
  refine (op_iload (pc' := 112) rfl rfl rfl).trans ?_
  refine (op_iastore (pc' := 113) rfl rfl).trans (op_bind fun n112 => op_ite ?_)
  refine (op_aload_n (pc' := 114) rfl rfl rfl).trans ?_
  refine (op_iload_n (pc' := 115) rfl rfl rfl).trans ?_
  refine (op_iload_n (pc' := 116) rfl rfl rfl).trans ?_
  exact op_virtual (pc' := 119) (m := 11) rfl rfl rfl rfl rfl rfl rfl rfl
theorem B_200_119 {d : Nat} {h : am_H} {a0 : Option Nat} {a1 : Int32} {a2 : Int32} {a3 : Int64} {a5 : Int32} {a6 : Int32} {a7 : Int32} {a8 : Int32} {a9 : am_V} {s0 : Int64} : Ev (d + 4) 200 119 [vr a0, vi a1, vi a2, vl a3, vu, vi a5, vi a6, vi a7, vi a8, a9, vu] [vl s0] h = if 0 ≤ (lg_cmp s0 a3) then Ev (d + 4) 200 149 [vr a0, vi a1, vi a2, vl a3, vu, vi a5, vi a6, vi a7, vi a8, vl s0, vu] [] h else Ev (d + 4) 200 128 [vr a0, vi a1, vi a2, vl a3, vu, vi a5, vi a6, vi a7, vi a8, vl s0, vu] [] h := by
  refine (op_lstore (pc' := 121) (ls' := [vr a0, vi a1, vi a2, vl a3, vu, vi a5, vi a6, vi a7, vi a8, vl s0, vu]) rfl rfl rfl rfl).trans ?_
  refine (op_lload (pc' := 123) rfl rfl rfl).trans ?_
  refine (op_lload_n (pc' := 124) rfl rfl rfl).trans ?_
  refine (op_lcmp (pc' := 125) rfl rfl).trans ?_
  exact op_ifge (pc' := 128) rfl rfl
theorem B_200_128 {d : Nat} {h : am_H} {a0 : Option Nat} {a1 : Int32} {a2 : Int32} {a3 : Int64} {a5 : Int32} {a6 : Int32} {a7 : Int32} {a8 : Int32} {a9 : Int64} : Ev (d + 4) 200 128 [vr a0, vi a1, vi a2, vl a3, vu, vi a5, vi a6, vi a7, vi a8, vl a9, vu] [] h = (a0).bind fun n134 => if hkd h n134 = 11 then (a0).bind fun n140 => if hkd (setI h n134 27 a5) n140 = 11 then Ev (d + 4) 200 143 [vr a0, vi a1, vi a2, vl a9, vu, vi a5, vi a6, vi a7, vi a8, vl a9, vu] [] (setI (setI h n134 27 a5) n140 28 a6) else none else none := by
  refine (op_lload (pc' := 130) rfl rfl rfl).trans ?_
  refine (op_lstore_n (pc' := 131) (ls' := [vr a0, vi a1, vi a2, vl a9, vu, vi a5, vi a6, vi a7, vi a8, vl a9, vu]) rfl rfl rfl rfl).trans ?_
  refine (op_aload_n (pc' := 132) rfl rfl rfl).trans ?_
  refine (op_iload (pc' := 134) rfl rfl rfl).trans ?_
  refine (op_putI (pc' := 137) rfl rfl rfl).trans (op_bind fun n134 => op_ite ?_)
  refine (op_aload_n (pc' := 138) rfl rfl rfl).trans ?_
  refine (op_iload (pc' := 140) rfl rfl rfl).trans ?_
  refine (op_putI (pc' := 143) rfl rfl rfl).trans (op_bind fun n140 => op_ite ?_)
  rfl
theorem B_200_143 {d : Nat} {h : am_H} {a0 : Option Nat} {a1 : Int32} {a2 : Int32} {a3 : Int64} {a5 : Int32} {a6 : Int32} {a7 : Int32} {a8 : Int32} {a9 : Int64} : Ev (d + 4) 200 143 [vr a0, vi a1, vi a2, vl a3, vu, vi a5, vi a6, vi a7, vi a8, vl a9, vu] [] h = (a0).bind fun n146 => if hkd h n146 = 11 then Ev (d + 4) 200 149 [vr a0, vi a1, vi a2, vl a3, vu, vi a5, vi a6, vi a7, vi a8, vl a9, vu] [] (setI h n146 29 a8) else none := by
  refine (op_aload_n (pc' := 144) rfl rfl rfl).trans ?_
  refine (op_iload (pc' := 146) rfl rfl rfl).trans ?_
  refine (op_putI (pc' := 149) rfl rfl rfl).trans (op_bind fun n146 => op_ite ?_)
  rfl
theorem B_200_149 {d : Nat} {h : am_H} {a0 : Option Nat} {a1 : Int32} {a2 : Int32} {a3 : Int64} {a5 : Int32} {a6 : Int32} {a7 : Int32} {a8 : Int32} {a9 : Int64} : Ev (d + 4) 200 149 [vr a0, vi a1, vi a2, vl a3, vu, vi a5, vi a6, vi a7, vi a8, vl a9, vu] [] h = Ev (d + 4) 200 92 [vr a0, vi a1, vi a2, vl a3, vu, vi a5, vi a6, vi a7, vi (a8 + 7), vl a9, vu] [] h := by
  refine (op_iinc (pc' := 152) (ls' := [vr a0, vi a1, vi a2, vl a3, vu, vi a5, vi a6, vi a7, vi (a8 + 7), vl a9, vu]) rfl rfl rfl k32_7 rfl).trans ?_
  refine (op_goto rfl).trans ?_
  rfl
theorem B_200_155 {d : Nat} {h : am_H} {a0 : Option Nat} {a1 : Int32} {a2 : Int32} {a3 : Int64} {a5 : Int32} {a6 : Int32} {a7 : Int32} {a8 : Int32} {a9 : am_V} : Ev (d + 4) 200 155 [vr a0, vi a1, vi a2, vl a3, vu, vi a5, vi a6, vi a7, vi a8, a9, vu] [] h = (a0).bind fun n156 => if hkd h n156 = 11 then ((hR h n156 3)).bind fun n168 => if hkd h n168 = 100 ∧ am_ix ((5 * a6) + a5) (hln h n168) then Ev (d + 4) 200 60 [vr a0, vi a1, vi a2, vl a3, vu, vi a5, vi (a6 + 1), vi a7, vi a8, a9, vu] [] (setI h n168 (Int32.toNatClampNeg ((5 * a6) + a5)) a7) else none else none := by
  refine (op_aload_n (pc' := 156) rfl rfl rfl).trans ?_
  refine (op_getR (pc' := 159) rfl rfl (by decide) rfl).trans (op_bind fun n156 => op_ite ?_)
  refine (op_iconst (pc' := 160) rfl rfl k32_5).trans ?_
  refine (op_iload (pc' := 162) rfl rfl rfl).trans ?_
  refine (op_imul (pc' := 163) rfl rfl).trans ?_
  refine (op_iload (pc' := 165) rfl rfl rfl).trans ?_
  refine (op_iadd (pc' := 166) rfl rfl).trans ?_
  refine (op_iload (pc' := 168) rfl rfl rfl).trans ?_
  refine (op_iastore (pc' := 169) rfl rfl).trans (op_bind fun n168 => op_ite ?_)
  refine (op_iinc (pc' := 172) (ls' := [vr a0, vi a1, vi a2, vl a3, vu, vi a5, vi (a6 + 1), vi a7, vi a8, a9, vu]) rfl rfl rfl k32_1 rfl).trans ?_
  refine (op_goto rfl).trans ?_
  rfl
theorem B_200_175 {d : Nat} {h : am_H} {a0 : Option Nat} {a1 : Int32} {a2 : Int32} {a3 : Int64} {a5 : Int32} {a6 : Int32} {a7 : am_V} {a8 : am_V} {a9 : am_V} : Ev (d + 4) 200 175 [vr a0, vi a1, vi a2, vl a3, vu, vi a5, vi a6, a7, a8, a9, vu] [] h = Ev (d + 4) 200 48 [vr a0, vi a1, vi a2, vl a3, vu, vi (a5 + 1), vi a6, a7, a8, a9, vu] [] h := by
  refine (op_iinc (pc' := 178) (ls' := [vr a0, vi a1, vi a2, vl a3, vu, vi (a5 + 1), vi a6, a7, a8, a9, vu]) rfl rfl rfl k32_1 rfl).trans ?_
  refine (op_goto rfl).trans ?_
  rfl
theorem B_200_181 {d : Nat} {h : am_H} {a0 : Option Nat} {a1 : Int32} {a2 : Int32} {a3 : Int64} {a5 : Int32} {a6 : am_V} {a7 : am_V} {a8 : am_V} {a9 : am_V} : Ev (d + 4) 200 181 [vr a0, vi a1, vi a2, vl a3, vu, vi a5, a6, a7, a8, a9, vu] [] h = some (some (vl a3), h) := by
  refine (op_lload_n (pc' := 182) rfl rfl rfl).trans ?_
  exact op_lreturn rfl rfl
/-! 220 java/lang/String.coder()B -/
theorem E_220 {d : Nat} {h : am_H} {a0 : Option Nat} : Cl d 220 [vr a0] h = Ev d 220 0 [vr a0] [] h := if_pos (Nat.le_of_ble_eq_true rfl)
theorem B_220_0 {d : Nat} {h : am_H} {a0 : Option Nat} : Ev (d + 4) 220 0 [vr a0] [] h = if 1 = 0 then Ev (d + 4) 220 13 [vr a0] [] h else Ev (d + 4) 220 6 [vr a0] [] h := by
  refine (op_getstatic (pc' := 3) rfl rfl).trans ?_
  exact op_ifeq (pc' := 6) rfl rfl
theorem B_220_6 {d : Nat} {h : am_H} {a0 : Option Nat} : Ev (d + 4) 220 6 [vr a0] [] h = (a0).bind fun n7 => if hkd h n7 = 902 then Ev (d + 4) 220 14 [vr a0] [vi (hI h n7 1)] h else none := by
  refine (op_aload_n (pc' := 7) rfl rfl rfl).trans ?_
  refine (op_getSC (pc' := 10) rfl rfl).trans (op_bind fun n7 => op_ite ?_)
  refine (op_goto rfl).trans ?_
  rfl
theorem B_220_13 {d : Nat} {h : am_H} {a0 : Option Nat} : Ev (d + 4) 220 13 [vr a0] [] h = Ev (d + 4) 220 14 [vr a0] [vi 1] h := by
  refine (op_iconst (pc' := 14) rfl rfl k32_1).trans ?_
  rfl
theorem B_220_14 {d : Nat} {h : am_H} {a0 : Option Nat} {s0 : Int32} : Ev (d + 4) 220 14 [vr a0] [vi s0] h = if am_nar (am_rt 220) s0 = true then some (some (vi s0), h) else none := by
  exact op_ireturnN rfl
