theorem am_k190 : am_c190.all (am_rk 190) = true := by decide +kernel
theorem am_k191 : am_c191.all (am_rk 191) = true := by decide +kernel
theorem am_k192 : am_c192.all (am_rk 192) = true := by decide +kernel
theorem am_k193_0 : ((am_c193.drop 0).take 60).all (am_rk 193) = true := by decide +kernel
theorem am_k193_1 : ((am_c193.drop 60).take 60).all (am_rk 193) = true := by decide +kernel
theorem am_k193_e1 : (am_c193.drop 60).all (am_rk 193) = true := am_halves _ _ 60 am_k193_1 (by decide +kernel)
theorem am_k193_e0 : (am_c193.drop 0).all (am_rk 193) = true := am_halves _ _ 60 am_k193_0 (by rw [List.drop_drop]; exact am_k193_e1)
theorem am_k193 : am_c193.all (am_rk 193) = true := by have q := am_k193_e0; rwa [List.drop_zero] at q
theorem am_k194_0 : ((am_c194.drop 0).take 60).all (am_rk 194) = true := by decide +kernel
theorem am_k194_1 : ((am_c194.drop 60).take 60).all (am_rk 194) = true := by decide +kernel
theorem am_k194_e1 : (am_c194.drop 60).all (am_rk 194) = true := am_halves _ _ 60 am_k194_1 (by decide +kernel)
theorem am_k194_e0 : (am_c194.drop 0).all (am_rk 194) = true := am_halves _ _ 60 am_k194_0 (by rw [List.drop_drop]; exact am_k194_e1)
theorem am_k194 : am_c194.all (am_rk 194) = true := by have q := am_k194_e0; rwa [List.drop_zero] at q
theorem am_k195 : am_c195.all (am_rk 195) = true := by decide +kernel
theorem am_k196 : am_c196.all (am_rk 196) = true := by decide +kernel
theorem am_k197_0 : ((am_c197.drop 0).take 60).all (am_rk 197) = true := by decide +kernel
theorem am_k197_1 : ((am_c197.drop 60).take 60).all (am_rk 197) = true := by decide +kernel
theorem am_k197_e1 : (am_c197.drop 60).all (am_rk 197) = true := am_halves _ _ 60 am_k197_1 (by decide +kernel)
theorem am_k197_e0 : (am_c197.drop 0).all (am_rk 197) = true := am_halves _ _ 60 am_k197_0 (by rw [List.drop_drop]; exact am_k197_e1)
theorem am_k197 : am_c197.all (am_rk 197) = true := by have q := am_k197_e0; rwa [List.drop_zero] at q
theorem am_k198 : am_c198.all (am_rk 198) = true := by decide +kernel
theorem am_k199 : am_c199.all (am_rk 199) = true := by decide +kernel
theorem am_k200_0 : ((am_c200.drop 0).take 60).all (am_rk 200) = true := by decide +kernel
theorem am_k200_1 : ((am_c200.drop 60).take 60).all (am_rk 200) = true := by decide +kernel
theorem am_k200_e1 : (am_c200.drop 60).all (am_rk 200) = true := am_halves _ _ 60 am_k200_1 (by decide +kernel)
theorem am_k200_e0 : (am_c200.drop 0).all (am_rk 200) = true := am_halves _ _ 60 am_k200_0 (by rw [List.drop_drop]; exact am_k200_e1)
theorem am_k200 : am_c200.all (am_rk 200) = true := by have q := am_k200_e0; rwa [List.drop_zero] at q
theorem am_k201 : am_c201.all (am_rk 201) = true := by decide +kernel
theorem am_k202 : am_c202.all (am_rk 202) = true := by decide +kernel
theorem am_k203_0 : ((am_c203.drop 0).take 60).all (am_rk 203) = true := by decide +kernel
theorem am_k203_1 : ((am_c203.drop 60).take 60).all (am_rk 203) = true := by decide +kernel
theorem am_k203_e1 : (am_c203.drop 60).all (am_rk 203) = true := am_halves _ _ 60 am_k203_1 (by decide +kernel)
theorem am_k203_e0 : (am_c203.drop 0).all (am_rk 203) = true := am_halves _ _ 60 am_k203_0 (by rw [List.drop_drop]; exact am_k203_e1)
theorem am_k203 : am_c203.all (am_rk 203) = true := by have q := am_k203_e0; rwa [List.drop_zero] at q
theorem am_k204 : am_c204.all (am_rk 204) = true := by decide +kernel
theorem am_k205_0 : ((am_c205.drop 0).take 60).all (am_rk 205) = true := by decide +kernel
theorem am_k205_1 : ((am_c205.drop 60).take 60).all (am_rk 205) = true := by decide +kernel
theorem am_k205_e1 : (am_c205.drop 60).all (am_rk 205) = true := am_halves _ _ 60 am_k205_1 (by decide +kernel)
theorem am_k205_e0 : (am_c205.drop 0).all (am_rk 205) = true := am_halves _ _ 60 am_k205_0 (by rw [List.drop_drop]; exact am_k205_e1)
theorem am_k205 : am_c205.all (am_rk 205) = true := by have q := am_k205_e0; rwa [List.drop_zero] at q
theorem am_k206 : am_c206.all (am_rk 206) = true := by decide +kernel
theorem am_k207 : am_c207.all (am_rk 207) = true := by decide +kernel
theorem am_k208 : am_c208.all (am_rk 208) = true := by decide +kernel
theorem am_k209 : am_c209.all (am_rk 209) = true := by decide +kernel
theorem am_k210_0 : ((am_c210.drop 0).take 60).all (am_rk 210) = true := by decide +kernel
theorem am_k210_1 : ((am_c210.drop 60).take 60).all (am_rk 210) = true := by decide +kernel
theorem am_k210_e1 : (am_c210.drop 60).all (am_rk 210) = true := am_halves _ _ 60 am_k210_1 (by decide +kernel)
theorem am_k210_e0 : (am_c210.drop 0).all (am_rk 210) = true := am_halves _ _ 60 am_k210_0 (by rw [List.drop_drop]; exact am_k210_e1)
theorem am_k210 : am_c210.all (am_rk 210) = true := by have q := am_k210_e0; rwa [List.drop_zero] at q
theorem am_k211_0 : ((am_c211.drop 0).take 60).all (am_rk 211) = true := by decide +kernel
theorem am_k211_1 : ((am_c211.drop 60).take 60).all (am_rk 211) = true := by decide +kernel
theorem am_k211_e1 : (am_c211.drop 60).all (am_rk 211) = true := am_halves _ _ 60 am_k211_1 (by decide +kernel)
theorem am_k211_e0 : (am_c211.drop 0).all (am_rk 211) = true := am_halves _ _ 60 am_k211_0 (by rw [List.drop_drop]; exact am_k211_e1)
theorem am_k211 : am_c211.all (am_rk 211) = true := by have q := am_k211_e0; rwa [List.drop_zero] at q
theorem am_k212 : am_c212.all (am_rk 212) = true := by decide +kernel
theorem am_k213 : am_c213.all (am_rk 213) = true := by decide +kernel
theorem am_k214_0 : ((am_c214.drop 0).take 60).all (am_rk 214) = true := by decide +kernel
theorem am_k214_1 : ((am_c214.drop 60).take 60).all (am_rk 214) = true := by decide +kernel
theorem am_k214_e1 : (am_c214.drop 60).all (am_rk 214) = true := am_halves _ _ 60 am_k214_1 (by decide +kernel)
theorem am_k214_e0 : (am_c214.drop 0).all (am_rk 214) = true := am_halves _ _ 60 am_k214_0 (by rw [List.drop_drop]; exact am_k214_e1)
theorem am_k214 : am_c214.all (am_rk 214) = true := by have q := am_k214_e0; rwa [List.drop_zero] at q
theorem am_k215_0 : ((am_c215.drop 0).take 60).all (am_rk 215) = true := by decide +kernel
theorem am_k215_1 : ((am_c215.drop 60).take 60).all (am_rk 215) = true := by decide +kernel
theorem am_k215_e1 : (am_c215.drop 60).all (am_rk 215) = true := am_halves _ _ 60 am_k215_1 (by decide +kernel)
theorem am_k215_e0 : (am_c215.drop 0).all (am_rk 215) = true := am_halves _ _ 60 am_k215_0 (by rw [List.drop_drop]; exact am_k215_e1)
theorem am_k215 : am_c215.all (am_rk 215) = true := by have q := am_k215_e0; rwa [List.drop_zero] at q
theorem am_k216 : am_c216.all (am_rk 216) = true := by decide +kernel
theorem am_k217 : am_c217.all (am_rk 217) = true := by decide +kernel
theorem am_k218 : am_c218.all (am_rk 218) = true := by decide +kernel
theorem am_k219 : am_c219.all (am_rk 219) = true := by decide +kernel
theorem am_k220 : am_c220.all (am_rk 220) = true := by decide +kernel
theorem am_k221 : am_c221.all (am_rk 221) = true := by decide +kernel
theorem am_k222 : am_c222.all (am_rk 222) = true := by decide +kernel
theorem am_k223 : am_c223.all (am_rk 223) = true := by decide +kernel
theorem am_k224 : am_c224.all (am_rk 224) = true := by decide +kernel
theorem am_k225 : am_c225.all (am_rk 225) = true := by decide +kernel
theorem am_k226 : am_c226.all (am_rk 226) = true := by decide +kernel
theorem am_k227 : am_c227.all (am_rk 227) = true := by decide +kernel
theorem am_k228 : am_c228.all (am_rk 228) = true := by decide +kernel
theorem am_kall : ∀ M, (am_ct.getD M []).all (am_rk M) = true := by
  intro M
  match M with
  | 0 => exact am_k0
  | 1 => exact am_k1
  | 2 => exact am_k2
  | 3 => exact am_k3
  | 4 => exact am_k4
  | 5 => exact am_k5
  | 6 => exact am_k6
  | 7 => exact am_k7
  | 8 => exact am_k8
  | 9 => exact am_k9
  | 10 => exact am_k10
  | 11 => exact am_k11
  | 12 => exact am_k12
  | 13 => exact am_k13
  | 14 => exact am_k14
  | 15 => exact am_k15
  | 16 => exact am_k16
  | 17 => exact am_k17
  | 18 => exact am_k18
  | 19 => exact am_k19
  | 20 => exact am_k20
  | 21 => exact am_k21
  | 22 => exact am_k22
  | 23 => exact am_k23
  | 24 => exact am_k24
  | 25 => exact am_k25
  | 26 => exact am_k26
  | 27 => exact am_k27
  | 28 => exact am_k28
  | 29 => exact am_k29
  | 30 => exact am_k30
  | 31 => exact am_k31
  | 32 => exact am_k32
  | 33 => exact am_k33
  | 34 => exact am_k34
  | 35 => exact am_k35
  | 36 => exact am_k36
  | 37 => exact am_k37
  | 38 => exact am_k38
  | 39 => exact am_k39
  | 40 => exact am_k40
  | 41 => exact am_k41
  | 42 => exact am_k42
  | 43 => exact am_k43
  | 44 => exact am_k44
  | 45 => exact am_k45
  | 46 => exact am_k46
  | 47 => exact am_k47
  | 48 => exact am_k48
  | 49 => exact am_k49
  | 50 => exact am_k50
  | 51 => exact am_k51
  | 52 => exact am_k52
  | 53 => exact am_k53
  | 54 => exact am_k54
  | 55 => exact am_k55
  | 56 => exact am_k56
  | 57 => exact am_k57
  | 58 => exact am_k58
  | 59 => exact am_k59
  | 60 => exact am_k60
  | 61 => exact am_k61
  | 62 => exact am_k62
  | 63 => exact am_k63
  | 64 => exact am_k64
  | 65 => exact am_k65
  | 66 => exact am_k66
  | 67 => exact am_k67
  | 68 => exact am_k68
  | 69 => exact am_k69
  | 70 => exact am_k70
  | 71 => exact am_k71
  | 72 => exact am_k72
  | 73 => exact am_k73
  | 74 => exact am_k74
  | 75 => exact am_k75
  | 76 => exact am_k76
  | 77 => exact am_k77
  | 78 => exact am_k78
  | 79 => exact am_k79
  | 80 => exact am_k80
  | 81 => exact am_k81
  | 82 => exact am_k82
  | 83 => exact am_k83
  | 84 => exact am_k84
  | 85 => exact am_k85
  | 86 => exact am_k86
  | 87 => exact am_k87
  | 88 => exact am_k88
  | 89 => exact am_k89
  | 90 => exact am_k90
  | 91 => exact am_k91
  | 92 => exact am_k92
  | 93 => exact am_k93
  | 94 => exact am_k94
  | 95 => exact am_k95
  | 96 => exact am_k96
  | 97 => exact am_k97
  | 98 => exact am_k98
  | 99 => exact am_k99
  | 100 => exact am_k100
  | 101 => exact am_k101
  | 102 => exact am_k102
  | 103 => exact am_k103
  | 104 => exact am_k104
  | 105 => exact am_k105
  | 106 => exact am_k106
  | 107 => exact am_k107
  | 108 => exact am_k108
  | 109 => exact am_k109
  | 110 => exact am_k110
  | 111 => exact am_k111
  | 112 => exact am_k112
  | 113 => exact am_k113
  | 114 => exact am_k114
  | 115 => exact am_k115
  | 116 => exact am_k116
  | 117 => exact am_k117
  | 118 => exact am_k118
  | 119 => exact am_k119
  | 120 => exact am_k120
  | 121 => exact am_k121
  | 122 => exact am_k122
  | 123 => exact am_k123
  | 124 => exact am_k124
  | 125 => exact am_k125
  | 126 => exact am_k126
  | 127 => exact am_k127
  | 128 => exact am_k128
  | 129 => exact am_k129
  | 130 => exact am_k130
  | 131 => exact am_k131
  | 132 => exact am_k132
  | 133 => exact am_k133
  | 134 => exact am_k134
  | 135 => exact am_k135
  | 136 => exact am_k136
  | 137 => exact am_k137
  | 138 => exact am_k138
  | 139 => exact am_k139
  | 140 => exact am_k140
  | 141 => exact am_k141
  | 142 => exact am_k142
  | 143 => exact am_k143
  | 144 => exact am_k144
  | 145 => exact am_k145
  | 146 => exact am_k146
  | 147 => exact am_k147
  | 148 => exact am_k148
  | 149 => exact am_k149
  | 150 => exact am_k150
  | 151 => exact am_k151
  | 152 => exact am_k152
  | 153 => exact am_k153
  | 154 => exact am_k154
  | 155 => exact am_k155
  | 156 => exact am_k156
  | 157 => exact am_k157
  | 158 => exact am_k158
  | 159 => exact am_k159
  | 160 => exact am_k160
  | 161 => exact am_k161
  | 162 => exact am_k162
  | 163 => exact am_k163
  | 164 => exact am_k164
  | 165 => exact am_k165
  | 166 => exact am_k166
  | 167 => exact am_k167
  | 168 => exact am_k168
  | 169 => exact am_k169
  | 170 => exact am_k170
  | 171 => exact am_k171
  | 172 => exact am_k172
  | 173 => exact am_k173
  | 174 => exact am_k174
  | 175 => exact am_k175
  | 176 => exact am_k176
  | 177 => exact am_k177
  | 178 => exact am_k178
  | 179 => exact am_k179
  | 180 => exact am_k180
  | 181 => exact am_k181
  | 182 => exact am_k182
  | 183 => exact am_k183
  | 184 => exact am_k184
  | 185 => exact am_k185
  | 186 => exact am_k186
  | 187 => exact am_k187
  | 188 => exact am_k188
  | 189 => exact am_k189
  | 190 => exact am_k190
  | 191 => exact am_k191
  | 192 => exact am_k192
  | 193 => exact am_k193
  | 194 => exact am_k194
  | 195 => exact am_k195
  | 196 => exact am_k196
  | 197 => exact am_k197
  | 198 => exact am_k198
  | 199 => exact am_k199
  | 200 => exact am_k200
  | 201 => exact am_k201
  | 202 => exact am_k202
  | 203 => exact am_k203
  | 204 => exact am_k204
  | 205 => exact am_k205
  | 206 => exact am_k206
  | 207 => exact am_k207
  | 208 => exact am_k208
  | 209 => exact am_k209
  | 210 => exact am_k210
  | 211 => exact am_k211
  | 212 => exact am_k212
  | 213 => exact am_k213
  | 214 => exact am_k214
  | 215 => exact am_k215
  | 216 => exact am_k216
  | 217 => exact am_k217
  | 218 => exact am_k218
  | 219 => exact am_k219
  | 220 => exact am_k220
  | 221 => exact am_k221
  | 222 => exact am_k222
  | 223 => exact am_k223
  | 224 => exact am_k224
  | 225 => exact am_k225
  | 226 => exact am_k226
  | 227 => exact am_k227
  | 228 => exact am_k228
  | M + 229 => rfl
theorem am_look {l : List (Nat × am_R)} {pc : Nat} {r : am_R} (h : l.lookup pc = some r) : (pc, r) ∈ l := by
  induction l with
  | nil => simp at h
  | cons a l ih =>
    obtain ⟨k, v⟩ := a
    rw [List.lookup_cons] at h
    by_cases e : pc = k
    · subst e
      simp at h
      subst h
      exact List.mem_cons_self
    · have e2 : (pc == k) = false := by simpa using e
      rw [e2] at h
      exact List.mem_cons_of_mem _ (ih h)
/-- a row is what its bytes and words say -/
theorem am_row {M pc : Nat} {r : am_R} (h : am_code M pc = some r) : am_rk M (pc, r) = true := List.all_eq_true.mp (am_kall M) _ (am_look h)
theorem am_rowD {M pc len p r1 r2 : Nat} {ins : Instr} {z : Int} {cs : List (Int × Nat)} (h : am_code M pc = some (ins, len, p, r1, r2, z, cs)) : decode (am_b M) pc = .ok (ins, len) ∧ am_rl M ins len p r1 r2 z cs pc = true := by
  have q := am_row h
  unfold am_rk at q
  rw [Bool.and_eq_true, decide_eq_true_eq] at q
  exact q
