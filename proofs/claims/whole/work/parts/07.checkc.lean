theorem am_k139 : am_c139.all (am_rk 139) = true := by decide +kernel
theorem am_k140 : am_c140.all (am_rk 140) = true := by decide +kernel
theorem am_k141 : am_c141.all (am_rk 141) = true := by decide +kernel
theorem am_k142 : am_c142.all (am_rk 142) = true := by decide +kernel
theorem am_k143 : am_c143.all (am_rk 143) = true := by decide +kernel
theorem am_k144 : am_c144.all (am_rk 144) = true := by decide +kernel
theorem am_k145_0 : ((am_c145.drop 0).take 60).all (am_rk 145) = true := by decide +kernel
theorem am_k145_1 : ((am_c145.drop 60).take 60).all (am_rk 145) = true := by decide +kernel
theorem am_k145_2 : ((am_c145.drop 120).take 60).all (am_rk 145) = true := by decide +kernel
theorem am_k145_3 : ((am_c145.drop 180).take 60).all (am_rk 145) = true := by decide +kernel
theorem am_k145_4 : ((am_c145.drop 240).take 60).all (am_rk 145) = true := by decide +kernel
theorem am_k145_e4 : (am_c145.drop 240).all (am_rk 145) = true := am_halves _ _ 60 am_k145_4 (by decide +kernel)
theorem am_k145_e3 : (am_c145.drop 180).all (am_rk 145) = true := am_halves _ _ 60 am_k145_3 (by rw [List.drop_drop]; exact am_k145_e4)
theorem am_k145_e2 : (am_c145.drop 120).all (am_rk 145) = true := am_halves _ _ 60 am_k145_2 (by rw [List.drop_drop]; exact am_k145_e3)
theorem am_k145_e1 : (am_c145.drop 60).all (am_rk 145) = true := am_halves _ _ 60 am_k145_1 (by rw [List.drop_drop]; exact am_k145_e2)
theorem am_k145_e0 : (am_c145.drop 0).all (am_rk 145) = true := am_halves _ _ 60 am_k145_0 (by rw [List.drop_drop]; exact am_k145_e1)
theorem am_k145 : am_c145.all (am_rk 145) = true := by have q := am_k145_e0; rwa [List.drop_zero] at q
theorem am_k146 : am_c146.all (am_rk 146) = true := by decide +kernel
theorem am_k147 : am_c147.all (am_rk 147) = true := by decide +kernel
theorem am_k148 : am_c148.all (am_rk 148) = true := by decide +kernel
theorem am_k149 : am_c149.all (am_rk 149) = true := by decide +kernel
theorem am_k150 : am_c150.all (am_rk 150) = true := by decide +kernel
theorem am_k151_0 : ((am_c151.drop 0).take 60).all (am_rk 151) = true := by decide +kernel
theorem am_k151_1 : ((am_c151.drop 60).take 60).all (am_rk 151) = true := by decide +kernel
theorem am_k151_e1 : (am_c151.drop 60).all (am_rk 151) = true := am_halves _ _ 60 am_k151_1 (by decide +kernel)
theorem am_k151_e0 : (am_c151.drop 0).all (am_rk 151) = true := am_halves _ _ 60 am_k151_0 (by rw [List.drop_drop]; exact am_k151_e1)
theorem am_k151 : am_c151.all (am_rk 151) = true := by have q := am_k151_e0; rwa [List.drop_zero] at q
theorem am_k152_0 : ((am_c152.drop 0).take 60).all (am_rk 152) = true := by decide +kernel
theorem am_k152_1 : ((am_c152.drop 60).take 60).all (am_rk 152) = true := by decide +kernel
theorem am_k152_e1 : (am_c152.drop 60).all (am_rk 152) = true := am_halves _ _ 60 am_k152_1 (by decide +kernel)
theorem am_k152_e0 : (am_c152.drop 0).all (am_rk 152) = true := am_halves _ _ 60 am_k152_0 (by rw [List.drop_drop]; exact am_k152_e1)
theorem am_k152 : am_c152.all (am_rk 152) = true := by have q := am_k152_e0; rwa [List.drop_zero] at q
theorem am_k153 : am_c153.all (am_rk 153) = true := by decide +kernel
theorem am_k154 : am_c154.all (am_rk 154) = true := by decide +kernel
theorem am_k155 : am_c155.all (am_rk 155) = true := by decide +kernel
theorem am_k156 : am_c156.all (am_rk 156) = true := by decide +kernel
theorem am_k157 : am_c157.all (am_rk 157) = true := by decide +kernel
theorem am_k158 : am_c158.all (am_rk 158) = true := by decide +kernel
theorem am_k159 : am_c159.all (am_rk 159) = true := by decide +kernel
theorem am_k160 : am_c160.all (am_rk 160) = true := by decide +kernel
theorem am_k161 : am_c161.all (am_rk 161) = true := by decide +kernel
theorem am_k162 : am_c162.all (am_rk 162) = true := by decide +kernel
theorem am_k163 : am_c163.all (am_rk 163) = true := by decide +kernel
theorem am_k164 : am_c164.all (am_rk 164) = true := by decide +kernel
theorem am_k165 : am_c165.all (am_rk 165) = true := by decide +kernel
theorem am_k166 : am_c166.all (am_rk 166) = true := by decide +kernel
theorem am_k167 : am_c167.all (am_rk 167) = true := by decide +kernel
theorem am_k168 : am_c168.all (am_rk 168) = true := by decide +kernel
theorem am_k169 : am_c169.all (am_rk 169) = true := by decide +kernel
theorem am_k170 : am_c170.all (am_rk 170) = true := by decide +kernel
theorem am_k171 : am_c171.all (am_rk 171) = true := by decide +kernel
theorem am_k172 : am_c172.all (am_rk 172) = true := by decide +kernel
theorem am_k173 : am_c173.all (am_rk 173) = true := by decide +kernel
theorem am_k174 : am_c174.all (am_rk 174) = true := by decide +kernel
theorem am_k175_0 : ((am_c175.drop 0).take 60).all (am_rk 175) = true := by decide +kernel
theorem am_k175_1 : ((am_c175.drop 60).take 60).all (am_rk 175) = true := by decide +kernel
theorem am_k175_e1 : (am_c175.drop 60).all (am_rk 175) = true := am_halves _ _ 60 am_k175_1 (by decide +kernel)
theorem am_k175_e0 : (am_c175.drop 0).all (am_rk 175) = true := am_halves _ _ 60 am_k175_0 (by rw [List.drop_drop]; exact am_k175_e1)
theorem am_k175 : am_c175.all (am_rk 175) = true := by have q := am_k175_e0; rwa [List.drop_zero] at q
theorem am_k176_0 : ((am_c176.drop 0).take 60).all (am_rk 176) = true := by decide +kernel
theorem am_k176_1 : ((am_c176.drop 60).take 60).all (am_rk 176) = true := by decide +kernel
theorem am_k176_2 : ((am_c176.drop 120).take 60).all (am_rk 176) = true := by decide +kernel
theorem am_k176_3 : ((am_c176.drop 180).take 60).all (am_rk 176) = true := by decide +kernel
theorem am_k176_e3 : (am_c176.drop 180).all (am_rk 176) = true := am_halves _ _ 60 am_k176_3 (by decide +kernel)
theorem am_k176_e2 : (am_c176.drop 120).all (am_rk 176) = true := am_halves _ _ 60 am_k176_2 (by rw [List.drop_drop]; exact am_k176_e3)
theorem am_k176_e1 : (am_c176.drop 60).all (am_rk 176) = true := am_halves _ _ 60 am_k176_1 (by rw [List.drop_drop]; exact am_k176_e2)
theorem am_k176_e0 : (am_c176.drop 0).all (am_rk 176) = true := am_halves _ _ 60 am_k176_0 (by rw [List.drop_drop]; exact am_k176_e1)
theorem am_k176 : am_c176.all (am_rk 176) = true := by have q := am_k176_e0; rwa [List.drop_zero] at q
theorem am_k177 : am_c177.all (am_rk 177) = true := by decide +kernel
theorem am_k178_0 : ((am_c178.drop 0).take 60).all (am_rk 178) = true := by decide +kernel
theorem am_k178_1 : ((am_c178.drop 60).take 60).all (am_rk 178) = true := by decide +kernel
theorem am_k178_2 : ((am_c178.drop 120).take 60).all (am_rk 178) = true := by decide +kernel
theorem am_k178_e2 : (am_c178.drop 120).all (am_rk 178) = true := am_halves _ _ 60 am_k178_2 (by decide +kernel)
theorem am_k178_e1 : (am_c178.drop 60).all (am_rk 178) = true := am_halves _ _ 60 am_k178_1 (by rw [List.drop_drop]; exact am_k178_e2)
theorem am_k178_e0 : (am_c178.drop 0).all (am_rk 178) = true := am_halves _ _ 60 am_k178_0 (by rw [List.drop_drop]; exact am_k178_e1)
theorem am_k178 : am_c178.all (am_rk 178) = true := by have q := am_k178_e0; rwa [List.drop_zero] at q
theorem am_k179 : am_c179.all (am_rk 179) = true := by decide +kernel
theorem am_k180 : am_c180.all (am_rk 180) = true := by decide +kernel
theorem am_k181 : am_c181.all (am_rk 181) = true := by decide +kernel
theorem am_k182 : am_c182.all (am_rk 182) = true := by decide +kernel
theorem am_k183 : am_c183.all (am_rk 183) = true := by decide +kernel
theorem am_k184 : am_c184.all (am_rk 184) = true := by decide +kernel
theorem am_k185 : am_c185.all (am_rk 185) = true := by decide +kernel
theorem am_k186 : am_c186.all (am_rk 186) = true := by decide +kernel
theorem am_k187 : am_c187.all (am_rk 187) = true := by decide +kernel
theorem am_k188_0 : ((am_c188.drop 0).take 60).all (am_rk 188) = true := by decide +kernel
theorem am_k188_1 : ((am_c188.drop 60).take 60).all (am_rk 188) = true := by decide +kernel
theorem am_k188_2 : ((am_c188.drop 120).take 60).all (am_rk 188) = true := by decide +kernel
theorem am_k188_e2 : (am_c188.drop 120).all (am_rk 188) = true := am_halves _ _ 60 am_k188_2 (by decide +kernel)
theorem am_k188_e1 : (am_c188.drop 60).all (am_rk 188) = true := am_halves _ _ 60 am_k188_1 (by rw [List.drop_drop]; exact am_k188_e2)
theorem am_k188_e0 : (am_c188.drop 0).all (am_rk 188) = true := am_halves _ _ 60 am_k188_0 (by rw [List.drop_drop]; exact am_k188_e1)
theorem am_k188 : am_c188.all (am_rk 188) = true := by have q := am_k188_e0; rwa [List.drop_zero] at q
theorem am_k189 : am_c189.all (am_rk 189) = true := by decide +kernel
