theorem am_k0_0 : ((am_c0.drop 0).take 60).all (am_rk 0) = true := by decide +kernel
theorem am_k0_1 : ((am_c0.drop 60).take 60).all (am_rk 0) = true := by decide +kernel
theorem am_k0_2 : ((am_c0.drop 120).take 60).all (am_rk 0) = true := by decide +kernel
theorem am_k0_3 : ((am_c0.drop 180).take 60).all (am_rk 0) = true := by decide +kernel
theorem am_k0_4 : ((am_c0.drop 240).take 60).all (am_rk 0) = true := by decide +kernel
theorem am_k0_5 : ((am_c0.drop 300).take 60).all (am_rk 0) = true := by decide +kernel
theorem am_k0_6 : ((am_c0.drop 360).take 60).all (am_rk 0) = true := by decide +kernel
theorem am_k0_7 : ((am_c0.drop 420).take 60).all (am_rk 0) = true := by decide +kernel
theorem am_k0_8 : ((am_c0.drop 480).take 60).all (am_rk 0) = true := by decide +kernel
theorem am_k0_9 : ((am_c0.drop 540).take 60).all (am_rk 0) = true := by decide +kernel
theorem am_k0_10 : ((am_c0.drop 600).take 60).all (am_rk 0) = true := by decide +kernel
theorem am_k0_11 : ((am_c0.drop 660).take 60).all (am_rk 0) = true := by decide +kernel
theorem am_k0_12 : ((am_c0.drop 720).take 60).all (am_rk 0) = true := by decide +kernel
theorem am_k0_13 : ((am_c0.drop 780).take 60).all (am_rk 0) = true := by decide +kernel
theorem am_k0_14 : ((am_c0.drop 840).take 60).all (am_rk 0) = true := by decide +kernel
theorem am_k0_15 : ((am_c0.drop 900).take 60).all (am_rk 0) = true := by decide +kernel
theorem am_k0_16 : ((am_c0.drop 960).take 60).all (am_rk 0) = true := by decide +kernel
theorem am_k0_17 : ((am_c0.drop 1020).take 60).all (am_rk 0) = true := by decide +kernel
theorem am_k0_e17 : (am_c0.drop 1020).all (am_rk 0) = true := am_halves _ _ 60 am_k0_17 (by decide +kernel)
theorem am_k0_e16 : (am_c0.drop 960).all (am_rk 0) = true := am_halves _ _ 60 am_k0_16 (by rw [List.drop_drop]; exact am_k0_e17)
theorem am_k0_e15 : (am_c0.drop 900).all (am_rk 0) = true := am_halves _ _ 60 am_k0_15 (by rw [List.drop_drop]; exact am_k0_e16)
theorem am_k0_e14 : (am_c0.drop 840).all (am_rk 0) = true := am_halves _ _ 60 am_k0_14 (by rw [List.drop_drop]; exact am_k0_e15)
theorem am_k0_e13 : (am_c0.drop 780).all (am_rk 0) = true := am_halves _ _ 60 am_k0_13 (by rw [List.drop_drop]; exact am_k0_e14)
theorem am_k0_e12 : (am_c0.drop 720).all (am_rk 0) = true := am_halves _ _ 60 am_k0_12 (by rw [List.drop_drop]; exact am_k0_e13)
theorem am_k0_e11 : (am_c0.drop 660).all (am_rk 0) = true := am_halves _ _ 60 am_k0_11 (by rw [List.drop_drop]; exact am_k0_e12)
theorem am_k0_e10 : (am_c0.drop 600).all (am_rk 0) = true := am_halves _ _ 60 am_k0_10 (by rw [List.drop_drop]; exact am_k0_e11)
theorem am_k0_e9 : (am_c0.drop 540).all (am_rk 0) = true := am_halves _ _ 60 am_k0_9 (by rw [List.drop_drop]; exact am_k0_e10)
theorem am_k0_e8 : (am_c0.drop 480).all (am_rk 0) = true := am_halves _ _ 60 am_k0_8 (by rw [List.drop_drop]; exact am_k0_e9)
theorem am_k0_e7 : (am_c0.drop 420).all (am_rk 0) = true := am_halves _ _ 60 am_k0_7 (by rw [List.drop_drop]; exact am_k0_e8)
theorem am_k0_e6 : (am_c0.drop 360).all (am_rk 0) = true := am_halves _ _ 60 am_k0_6 (by rw [List.drop_drop]; exact am_k0_e7)
theorem am_k0_e5 : (am_c0.drop 300).all (am_rk 0) = true := am_halves _ _ 60 am_k0_5 (by rw [List.drop_drop]; exact am_k0_e6)
theorem am_k0_e4 : (am_c0.drop 240).all (am_rk 0) = true := am_halves _ _ 60 am_k0_4 (by rw [List.drop_drop]; exact am_k0_e5)
theorem am_k0_e3 : (am_c0.drop 180).all (am_rk 0) = true := am_halves _ _ 60 am_k0_3 (by rw [List.drop_drop]; exact am_k0_e4)
theorem am_k0_e2 : (am_c0.drop 120).all (am_rk 0) = true := am_halves _ _ 60 am_k0_2 (by rw [List.drop_drop]; exact am_k0_e3)
theorem am_k0_e1 : (am_c0.drop 60).all (am_rk 0) = true := am_halves _ _ 60 am_k0_1 (by rw [List.drop_drop]; exact am_k0_e2)
theorem am_k0_e0 : (am_c0.drop 0).all (am_rk 0) = true := am_halves _ _ 60 am_k0_0 (by rw [List.drop_drop]; exact am_k0_e1)
theorem am_k0 : am_c0.all (am_rk 0) = true := by have q := am_k0_e0; rwa [List.drop_zero] at q
theorem am_k1_0 : ((am_c1.drop 0).take 60).all (am_rk 1) = true := by decide +kernel
theorem am_k1_1 : ((am_c1.drop 60).take 60).all (am_rk 1) = true := by decide +kernel
theorem am_k1_e1 : (am_c1.drop 60).all (am_rk 1) = true := am_halves _ _ 60 am_k1_1 (by decide +kernel)
theorem am_k1_e0 : (am_c1.drop 0).all (am_rk 1) = true := am_halves _ _ 60 am_k1_0 (by rw [List.drop_drop]; exact am_k1_e1)
theorem am_k1 : am_c1.all (am_rk 1) = true := by have q := am_k1_e0; rwa [List.drop_zero] at q
theorem am_k2 : am_c2.all (am_rk 2) = true := by decide +kernel
theorem am_k3 : am_c3.all (am_rk 3) = true := by decide +kernel
theorem am_k4 : am_c4.all (am_rk 4) = true := by decide +kernel
theorem am_k5 : am_c5.all (am_rk 5) = true := by decide +kernel
theorem am_k6 : am_c6.all (am_rk 6) = true := by decide +kernel
theorem am_k7 : am_c7.all (am_rk 7) = true := by decide +kernel
theorem am_k8 : am_c8.all (am_rk 8) = true := by decide +kernel
theorem am_k9 : am_c9.all (am_rk 9) = true := by decide +kernel
theorem am_k10 : am_c10.all (am_rk 10) = true := by decide +kernel
theorem am_k11 : am_c11.all (am_rk 11) = true := by decide +kernel
theorem am_k12 : am_c12.all (am_rk 12) = true := by decide +kernel
theorem am_k13 : am_c13.all (am_rk 13) = true := by decide +kernel
theorem am_k14 : am_c14.all (am_rk 14) = true := by decide +kernel
theorem am_k15 : am_c15.all (am_rk 15) = true := by decide +kernel
theorem am_k16 : am_c16.all (am_rk 16) = true := by decide +kernel
theorem am_k17 : am_c17.all (am_rk 17) = true := by decide +kernel
theorem am_k18 : am_c18.all (am_rk 18) = true := by decide +kernel
theorem am_k19 : am_c19.all (am_rk 19) = true := by decide +kernel
theorem am_k20 : am_c20.all (am_rk 20) = true := by decide +kernel
theorem am_k21 : am_c21.all (am_rk 21) = true := by decide +kernel
theorem am_k22 : am_c22.all (am_rk 22) = true := by decide +kernel
theorem am_k23 : am_c23.all (am_rk 23) = true := by decide +kernel
theorem am_k24 : am_c24.all (am_rk 24) = true := by decide +kernel
theorem am_k25 : am_c25.all (am_rk 25) = true := by decide +kernel
theorem am_k26 : am_c26.all (am_rk 26) = true := by decide +kernel
theorem am_k27 : am_c27.all (am_rk 27) = true := by decide +kernel
theorem am_k28 : am_c28.all (am_rk 28) = true := by decide +kernel
theorem am_k29 : am_c29.all (am_rk 29) = true := by decide +kernel
theorem am_k30 : am_c30.all (am_rk 30) = true := by decide +kernel
theorem am_k31 : am_c31.all (am_rk 31) = true := by decide +kernel
theorem am_k32 : am_c32.all (am_rk 32) = true := by decide +kernel
theorem am_k33 : am_c33.all (am_rk 33) = true := by decide +kernel
theorem am_k34 : am_c34.all (am_rk 34) = true := by decide +kernel
theorem am_k35 : am_c35.all (am_rk 35) = true := by decide +kernel
theorem am_k36 : am_c36.all (am_rk 36) = true := by decide +kernel
theorem am_k37 : am_c37.all (am_rk 37) = true := by decide +kernel
theorem am_k38 : am_c38.all (am_rk 38) = true := by decide +kernel
theorem am_k39 : am_c39.all (am_rk 39) = true := by decide +kernel
theorem am_k40 : am_c40.all (am_rk 40) = true := by decide +kernel
theorem am_k41 : am_c41.all (am_rk 41) = true := by decide +kernel
theorem am_k42 : am_c42.all (am_rk 42) = true := by decide +kernel
theorem am_k43 : am_c43.all (am_rk 43) = true := by decide +kernel
theorem am_k44 : am_c44.all (am_rk 44) = true := by decide +kernel
theorem am_k45 : am_c45.all (am_rk 45) = true := by decide +kernel
theorem am_k46 : am_c46.all (am_rk 46) = true := by decide +kernel
theorem am_k47 : am_c47.all (am_rk 47) = true := by decide +kernel
theorem am_k48 : am_c48.all (am_rk 48) = true := by decide +kernel
theorem am_k49 : am_c49.all (am_rk 49) = true := by decide +kernel
theorem am_k50 : am_c50.all (am_rk 50) = true := by decide +kernel
theorem am_k51 : am_c51.all (am_rk 51) = true := by decide +kernel
