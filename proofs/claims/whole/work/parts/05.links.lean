theorem dl_ws0 : ∀ w ∈ u_ws RX0 TX0 10, w ∈ dk_tb := by decide +kernel
theorem dl_ws1 : ∀ w ∈ u_ws RX1 TX1 3, w ∈ dk_tb := by decide +kernel
theorem dl_ws2 : ∀ w ∈ u_ws RX2 TX2 4, w ∈ dk_tb := by decide +kernel
theorem dl_ws3 : ∀ w ∈ u_ws RX3 TX3 3, w ∈ dk_tb := by decide +kernel
theorem dl_ws4 : ∀ w ∈ u_ws RX4 TX4 4, w ∈ dk_tb := by decide +kernel
theorem dl_ws5 : ∀ w ∈ u_ws RX5 TX5 2, w ∈ dk_tb := by decide +kernel
theorem dl_ws6 : ∀ w ∈ u_ws RX6 TX6 2, w ∈ dk_tb := by decide +kernel
theorem dl_ws7 : ∀ w ∈ u_ws RX7 TX7 8, w ∈ dk_tb := by decide +kernel
theorem dl_ws8 : ∀ w ∈ u_ws RX8 TX8 15, w ∈ dk_tb := by decide +kernel
theorem dl_ws9 : ∀ w ∈ u_ws RX9 TX9 41, w ∈ dk_tb := by decide +kernel
theorem dl_X1_9 : dk_F "DuckWalk$Duck" 9 1 0 := ⟨RX1, TX1, 3, _, tyX1, rfl, by decide, by decide, rfl, dl_ws1, tyX1_ok, nmX1, rfl, dk_m1 44 rfl rfl⟩
theorem dl_X2_33 : dk_F "DuckWalk$Guess" 33 1 0 := ⟨RX1, TX1, 3, _, tyX1, rfl, by decide, by decide, rfl, dl_ws1, tyX1_ok, nmX1, rfl, dk_m1 45 rfl rfl⟩
theorem dl_X0_76 : dk_F "DuckWalk$Course" 76 1 0 := ⟨RX1, TX1, 3, _, tyX1, rfl, by decide, by decide, rfl, dl_ws1, tyX1_ok, nmX1, rfl, dk_m1 46 rfl rfl⟩
theorem dl_X4_61 : dk_F "DuckWalk$Reader" 61 1 0 := ⟨RX1, TX1, 3, _, tyX1, rfl, by decide, by decide, rfl, dl_ws1, tyX1_ok, nmX1, rfl, dk_m1 47 rfl rfl⟩
theorem dl_X8_226 : dk_F "DuckWalk" 226 1 0 := ⟨RX1, TX1, 3, _, tyX1, rfl, by decide, by decide, rfl, dl_ws1, tyX1_ok, nmX1, rfl, dk_m1 48 rfl rfl⟩
theorem dl_X1_15 : dk_F "DuckWalk$Duck" 15 1 1 := ⟨RX1, TX1, 3, _, tyX1, rfl, by decide, by decide, rfl, dl_ws1, tyX1_ok, nmX1, rfl, dk_m1 49 rfl rfl⟩
theorem dl_X4_65 : dk_F "DuckWalk$Reader" 65 1 1 := ⟨RX1, TX1, 3, _, tyX1, rfl, by decide, by decide, rfl, dl_ws1, tyX1_ok, nmX1, rfl, dk_m1 50 rfl rfl⟩
theorem dl_X8_205 : dk_F "DuckWalk" 205 1 1 := ⟨RX1, TX1, 3, _, tyX1, rfl, by decide, by decide, rfl, dl_ws1, tyX1_ok, nmX1, rfl, dk_m1 51 rfl rfl⟩
theorem dl_X1_19 : dk_F "DuckWalk$Duck" 19 1 2 := ⟨RX1, TX1, 3, _, tyX1, rfl, by decide, by decide, rfl, dl_ws1, tyX1_ok, nmX1, rfl, dk_m1 52 rfl rfl⟩
theorem dl_X8_110 : dk_F "DuckWalk" 110 1 2 := ⟨RX1, TX1, 3, _, tyX1, rfl, by decide, by decide, rfl, dl_ws1, tyX1_ok, nmX1, rfl, dk_m1 53 rfl rfl⟩
theorem dl_X3_9 : dk_F "DuckWalk$Plank" 9 3 0 := ⟨RX3, TX3, 3, _, tyX3, rfl, by decide, by decide, rfl, dl_ws3, tyX3_ok, nmX3, rfl, dk_m1 68 rfl rfl⟩
theorem dl_X4_74 : dk_F "DuckWalk$Reader" 74 3 0 := ⟨RX3, TX3, 3, _, tyX3, rfl, by decide, by decide, rfl, dl_ws3, tyX3_ok, nmX3, rfl, dk_m1 69 rfl rfl⟩
theorem dl_X8_344 : dk_F "DuckWalk" 344 3 0 := ⟨RX3, TX3, 3, _, tyX3, rfl, by decide, by decide, rfl, dl_ws3, tyX3_ok, nmX3, rfl, dk_m1 70 rfl rfl⟩
theorem dl_X3_15 : dk_F "DuckWalk$Plank" 15 3 1 := ⟨RX3, TX3, 3, _, tyX3, rfl, by decide, by decide, rfl, dl_ws3, tyX3_ok, nmX3, rfl, dk_m1 71 rfl rfl⟩
theorem dl_X0_66 : dk_F "DuckWalk$Course" 66 3 1 := ⟨RX3, TX3, 3, _, tyX3, rfl, by decide, by decide, rfl, dl_ws3, tyX3_ok, nmX3, rfl, dk_m1 72 rfl rfl⟩
theorem dl_X4_71 : dk_F "DuckWalk$Reader" 71 3 1 := ⟨RX3, TX3, 3, _, tyX3, rfl, by decide, by decide, rfl, dl_ws3, tyX3_ok, nmX3, rfl, dk_m1 73 rfl rfl⟩
theorem dl_X8_131 : dk_F "DuckWalk" 131 3 1 := ⟨RX3, TX3, 3, _, tyX3, rfl, by decide, by decide, rfl, dl_ws3, tyX3_ok, nmX3, rfl, dk_m1 74 rfl rfl⟩
theorem dl_X3_19 : dk_F "DuckWalk$Plank" 19 3 2 := ⟨RX3, TX3, 3, _, tyX3, rfl, by decide, by decide, rfl, dl_ws3, tyX3_ok, nmX3, rfl, dk_m1 75 rfl rfl⟩
theorem dl_X8_114 : dk_F "DuckWalk" 114 3 2 := ⟨RX3, TX3, 3, _, tyX3, rfl, by decide, by decide, rfl, dl_ws3, tyX3_ok, nmX3, rfl, dk_m1 76 rfl rfl⟩
theorem dl_X0_12 : dk_F "DuckWalk$Course" 12 0 0 := ⟨RX0, TX0, 10, _, tyX0, rfl, by decide, by decide, rfl, dl_ws0, tyX0_ok, nmX0, rfl, dk_m1 84 rfl rfl⟩
theorem dl_X2_27 : dk_F "DuckWalk$Guess" 27 0 0 := ⟨RX0, TX0, 10, _, tyX0, rfl, by decide, by decide, rfl, dl_ws0, tyX0_ok, nmX0, rfl, dk_m1 85 rfl rfl⟩
theorem dl_X7_79 : dk_F "DuckWalk$Trial" 79 0 0 := ⟨RX0, TX0, 10, _, tyX0, rfl, by decide, by decide, rfl, dl_ws0, tyX0_ok, nmX0, rfl, dk_m1 86 rfl rfl⟩
theorem dl_X8_116 : dk_F "DuckWalk" 116 0 0 := ⟨RX0, TX0, 10, _, tyX0, rfl, by decide, by decide, rfl, dl_ws0, tyX0_ok, nmX0, rfl, dk_m1 87 rfl rfl⟩
theorem dl_X0_21 : dk_F "DuckWalk$Course" 21 0 1 := ⟨RX0, TX0, 10, _, tyX0, rfl, by decide, by decide, rfl, dl_ws0, tyX0_ok, nmX0, rfl, dk_m1 88 rfl rfl⟩
theorem dl_X8_124 : dk_F "DuckWalk" 124 0 1 := ⟨RX0, TX0, 10, _, tyX0, rfl, by decide, by decide, rfl, dl_ws0, tyX0_ok, nmX0, rfl, dk_m1 89 rfl rfl⟩
theorem dl_X0_25 : dk_F "DuckWalk$Course" 25 0 2 := ⟨RX0, TX0, 10, _, tyX0, rfl, by decide, by decide, rfl, dl_ws0, tyX0_ok, nmX0, rfl, dk_m1 90 rfl rfl⟩
theorem dl_X8_237 : dk_F "DuckWalk" 237 0 2 := ⟨RX0, TX0, 10, _, tyX0, rfl, by decide, by decide, rfl, dl_ws0, tyX0_ok, nmX0, rfl, dk_m1 91 rfl rfl⟩
theorem dl_X0_29 : dk_F "DuckWalk$Course" 29 0 3 := ⟨RX0, TX0, 10, _, tyX0, rfl, by decide, by decide, rfl, dl_ws0, tyX0_ok, nmX0, rfl, dk_m1 92 rfl rfl⟩
theorem dl_X8_254 : dk_F "DuckWalk" 254 0 3 := ⟨RX0, TX0, 10, _, tyX0, rfl, by decide, by decide, rfl, dl_ws0, tyX0_ok, nmX0, rfl, dk_m1 93 rfl rfl⟩
theorem dl_X0_33 : dk_F "DuckWalk$Course" 33 0 4 := ⟨RX0, TX0, 10, _, tyX0, rfl, by decide, by decide, rfl, dl_ws0, tyX0_ok, nmX0, rfl, dk_m1 94 rfl rfl⟩
theorem dl_X7_56 : dk_F "DuckWalk$Trial" 56 0 4 := ⟨RX0, TX0, 10, _, tyX0, rfl, by decide, by decide, rfl, dl_ws0, tyX0_ok, nmX0, rfl, dk_m1 95 rfl rfl⟩
theorem dl_X2_65 : dk_F "DuckWalk$Guess" 65 0 4 := ⟨RX0, TX0, 10, _, tyX0, rfl, by decide, by decide, rfl, dl_ws0, tyX0_ok, nmX0, rfl, dk_m1 96 rfl rfl⟩
theorem dl_X8_251 : dk_F "DuckWalk" 251 0 4 := ⟨RX0, TX0, 10, _, tyX0, rfl, by decide, by decide, rfl, dl_ws0, tyX0_ok, nmX0, rfl, dk_m1 97 rfl rfl⟩
theorem dl_X0_36 : dk_F "DuckWalk$Course" 36 0 5 := ⟨RX0, TX0, 10, _, tyX0, rfl, by decide, by decide, rfl, dl_ws0, tyX0_ok, nmX0, rfl, dk_m1 98 rfl rfl⟩
theorem dl_X7_59 : dk_F "DuckWalk$Trial" 59 0 5 := ⟨RX0, TX0, 10, _, tyX0, rfl, by decide, by decide, rfl, dl_ws0, tyX0_ok, nmX0, rfl, dk_m1 99 rfl rfl⟩
theorem dl_X0_39 : dk_F "DuckWalk$Course" 39 0 6 := ⟨RX0, TX0, 10, _, tyX0, rfl, by decide, by decide, rfl, dl_ws0, tyX0_ok, nmX0, rfl, dk_m1 100 rfl rfl⟩
theorem dl_X7_96 : dk_F "DuckWalk$Trial" 96 0 6 := ⟨RX0, TX0, 10, _, tyX0, rfl, by decide, by decide, rfl, dl_ws0, tyX0_ok, nmX0, rfl, dk_m1 101 rfl rfl⟩
theorem dl_X8_241 : dk_F "DuckWalk" 241 0 6 := ⟨RX0, TX0, 10, _, tyX0, rfl, by decide, by decide, rfl, dl_ws0, tyX0_ok, nmX0, rfl, dk_m1 102 rfl rfl⟩
theorem dl_X0_42 : dk_F "DuckWalk$Course" 42 0 7 := ⟨RX0, TX0, 10, _, tyX0, rfl, by decide, by decide, rfl, dl_ws0, tyX0_ok, nmX0, rfl, dk_m1 103 rfl rfl⟩
theorem dl_X7_53 : dk_F "DuckWalk$Trial" 53 0 7 := ⟨RX0, TX0, 10, _, tyX0, rfl, by decide, by decide, rfl, dl_ws0, tyX0_ok, nmX0, rfl, dk_m1 104 rfl rfl⟩
theorem dl_X2_62 : dk_F "DuckWalk$Guess" 62 0 7 := ⟨RX0, TX0, 10, _, tyX0, rfl, by decide, by decide, rfl, dl_ws0, tyX0_ok, nmX0, rfl, dk_m1 105 rfl rfl⟩
theorem dl_X8_346 : dk_F "DuckWalk" 346 0 7 := ⟨RX0, TX0, 10, _, tyX0, rfl, by decide, by decide, rfl, dl_ws0, tyX0_ok, nmX0, rfl, dk_m1 106 rfl rfl⟩
theorem dl_X0_45 : dk_F "DuckWalk$Course" 45 0 8 := ⟨RX0, TX0, 10, _, tyX0, rfl, by decide, by decide, rfl, dl_ws0, tyX0_ok, nmX0, rfl, dk_m1 107 rfl rfl⟩
theorem dl_X8_334 : dk_F "DuckWalk" 334 0 8 := ⟨RX0, TX0, 10, _, tyX0, rfl, by decide, by decide, rfl, dl_ws0, tyX0_ok, nmX0, rfl, dk_m1 108 rfl rfl⟩
theorem dl_X0_48 : dk_F "DuckWalk$Course" 48 0 9 := ⟨RX0, TX0, 10, _, tyX0, rfl, by decide, by decide, rfl, dl_ws0, tyX0_ok, nmX0, rfl, dk_m1 109 rfl rfl⟩
theorem dl_X8_331 : dk_F "DuckWalk" 331 0 9 := ⟨RX0, TX0, 10, _, tyX0, rfl, by decide, by decide, rfl, dl_ws0, tyX0_ok, nmX0, rfl, dk_m1 110 rfl rfl⟩
theorem dl_X4_12 : dk_F "DuckWalk$Reader" 12 4 0 := ⟨RX4, TX4, 4, _, tyX4, rfl, by decide, by decide, rfl, dl_ws4, tyX4_ok, nmX4, rfl, dk_m1 143 rfl rfl⟩
theorem dl_X8_204 : dk_F "DuckWalk" 204 4 0 := ⟨RX4, TX4, 4, _, tyX4, rfl, by decide, by decide, rfl, dl_ws4, tyX4_ok, nmX4, rfl, dk_m1 144 rfl rfl⟩
theorem dl_X4_21 : dk_F "DuckWalk$Reader" 21 4 1 := ⟨RX4, TX4, 4, _, tyX4, rfl, by decide, by decide, rfl, dl_ws4, tyX4_ok, nmX4, rfl, dk_m1 145 rfl rfl⟩
theorem dl_X8_213 : dk_F "DuckWalk" 213 4 1 := ⟨RX4, TX4, 4, _, tyX4, rfl, by decide, by decide, rfl, dl_ws4, tyX4_ok, nmX4, rfl, dk_m1 146 rfl rfl⟩
theorem dl_X4_25 : dk_F "DuckWalk$Reader" 25 4 2 := ⟨RX4, TX4, 4, _, tyX4, rfl, by decide, by decide, rfl, dl_ws4, tyX4_ok, nmX4, rfl, dk_m1 147 rfl rfl⟩
theorem dl_X8_217 : dk_F "DuckWalk" 217 4 2 := ⟨RX4, TX4, 4, _, tyX4, rfl, by decide, by decide, rfl, dl_ws4, tyX4_ok, nmX4, rfl, dk_m1 148 rfl rfl⟩
theorem dl_X4_29 : dk_F "DuckWalk$Reader" 29 4 3 := ⟨RX4, TX4, 4, _, tyX4, rfl, by decide, by decide, rfl, dl_ws4, tyX4_ok, nmX4, rfl, dk_m1 149 rfl rfl⟩
theorem dl_X7_12 : dk_F "DuckWalk$Trial" 12 7 0 := ⟨RX7, TX7, 8, _, tyX7, rfl, by decide, by decide, rfl, dl_ws7, tyX7_ok, nmX7, rfl, dk_m1 167 rfl rfl⟩
theorem dl_X8_115 : dk_F "DuckWalk" 115 7 0 := ⟨RX7, TX7, 8, _, tyX7, rfl, by decide, by decide, rfl, dl_ws7, tyX7_ok, nmX7, rfl, dk_m1 168 rfl rfl⟩
theorem dl_X7_18 : dk_F "DuckWalk$Trial" 18 7 1 := ⟨RX7, TX7, 8, _, tyX7, rfl, by decide, by decide, rfl, dl_ws7, tyX7_ok, nmX7, rfl, dk_m1 169 rfl rfl⟩
theorem dl_X8_273 : dk_F "DuckWalk" 273 7 1 := ⟨RX7, TX7, 8, _, tyX7, rfl, by decide, by decide, rfl, dl_ws7, tyX7_ok, nmX7, rfl, dk_m1 170 rfl rfl⟩
theorem dl_X7_22 : dk_F "DuckWalk$Trial" 22 7 2 := ⟨RX7, TX7, 8, _, tyX7, rfl, by decide, by decide, rfl, dl_ws7, tyX7_ok, nmX7, rfl, dk_m1 171 rfl rfl⟩
theorem dl_X8_270 : dk_F "DuckWalk" 270 7 2 := ⟨RX7, TX7, 8, _, tyX7, rfl, by decide, by decide, rfl, dl_ws7, tyX7_ok, nmX7, rfl, dk_m1 172 rfl rfl⟩
theorem dl_X7_25 : dk_F "DuckWalk$Trial" 25 7 3 := ⟨RX7, TX7, 8, _, tyX7, rfl, by decide, by decide, rfl, dl_ws7, tyX7_ok, nmX7, rfl, dk_m1 173 rfl rfl⟩
theorem dl_X8_288 : dk_F "DuckWalk" 288 7 3 := ⟨RX7, TX7, 8, _, tyX7, rfl, by decide, by decide, rfl, dl_ws7, tyX7_ok, nmX7, rfl, dk_m1 174 rfl rfl⟩
theorem dl_X7_28 : dk_F "DuckWalk$Trial" 28 7 4 := ⟨RX7, TX7, 8, _, tyX7, rfl, by decide, by decide, rfl, dl_ws7, tyX7_ok, nmX7, rfl, dk_m1 175 rfl rfl⟩
theorem dl_X7_31 : dk_F "DuckWalk$Trial" 31 7 5 := ⟨RX7, TX7, 8, _, tyX7, rfl, by decide, by decide, rfl, dl_ws7, tyX7_ok, nmX7, rfl, dk_m1 176 rfl rfl⟩
theorem dl_X7_35 : dk_F "DuckWalk$Trial" 35 7 6 := ⟨RX7, TX7, 8, _, tyX7, rfl, by decide, by decide, rfl, dl_ws7, tyX7_ok, nmX7, rfl, dk_m1 177 rfl rfl⟩
theorem dl_X7_39 : dk_F "DuckWalk$Trial" 39 7 7 := ⟨RX7, TX7, 8, _, tyX7, rfl, by decide, by decide, rfl, dl_ws7, tyX7_ok, nmX7, rfl, dk_m1 178 rfl rfl⟩
theorem dl_X2_9 : dk_F "DuckWalk$Guess" 9 2 0 := ⟨RX2, TX2, 4, _, tyX2, rfl, by decide, by decide, rfl, dl_ws2, tyX2_ok, nmX2, rfl, dk_m1 203 rfl rfl⟩
theorem dl_X8_305 : dk_F "DuckWalk" 305 2 0 := ⟨RX2, TX2, 4, _, tyX2, rfl, by decide, by decide, rfl, dl_ws2, tyX2_ok, nmX2, rfl, dk_m1 204 rfl rfl⟩
theorem dl_X2_15 : dk_F "DuckWalk$Guess" 15 2 1 := ⟨RX2, TX2, 4, _, tyX2, rfl, by decide, by decide, rfl, dl_ws2, tyX2_ok, nmX2, rfl, dk_m1 205 rfl rfl⟩
theorem dl_X8_306 : dk_F "DuckWalk" 306 2 1 := ⟨RX2, TX2, 4, _, tyX2, rfl, by decide, by decide, rfl, dl_ws2, tyX2_ok, nmX2, rfl, dk_m1 206 rfl rfl⟩
theorem dl_X2_18 : dk_F "DuckWalk$Guess" 18 2 2 := ⟨RX2, TX2, 4, _, tyX2, rfl, by decide, by decide, rfl, dl_ws2, tyX2_ok, nmX2, rfl, dk_m1 207 rfl rfl⟩
theorem dl_X8_312 : dk_F "DuckWalk" 312 2 2 := ⟨RX2, TX2, 4, _, tyX2, rfl, by decide, by decide, rfl, dl_ws2, tyX2_ok, nmX2, rfl, dk_m1 208 rfl rfl⟩
theorem dl_X2_21 : dk_F "DuckWalk$Guess" 21 2 3 := ⟨RX2, TX2, 4, _, tyX2, rfl, by decide, by decide, rfl, dl_ws2, tyX2_ok, nmX2, rfl, dk_m1 209 rfl rfl⟩
theorem dl_X8_309 : dk_F "DuckWalk" 309 2 3 := ⟨RX2, TX2, 4, _, tyX2, rfl, by decide, by decide, rfl, dl_ws2, tyX2_ok, nmX2, rfl, dk_m1 210 rfl rfl⟩
theorem dl_X5_9 : dk_F "DuckWalk$Row" 9 5 0 := ⟨RX5, TX5, 2, _, tyX5, rfl, by decide, by decide, rfl, dl_ws5, tyX5_ok, nmX5, rfl, dk_m1 225 rfl rfl⟩
theorem dl_X2_47 : dk_F "DuckWalk$Guess" 47 5 0 := ⟨RX5, TX5, 2, _, tyX5, rfl, by decide, by decide, rfl, dl_ws5, tyX5_ok, nmX5, rfl, dk_m1 226 rfl rfl⟩
theorem dl_X8_164 : dk_F "DuckWalk" 164 5 0 := ⟨RX5, TX5, 2, _, tyX5, rfl, by decide, by decide, rfl, dl_ws5, tyX5_ok, nmX5, rfl, dk_m1 227 rfl rfl⟩
theorem dl_X5_15 : dk_F "DuckWalk$Row" 15 5 1 := ⟨RX5, TX5, 2, _, tyX5, rfl, by decide, by decide, rfl, dl_ws5, tyX5_ok, nmX5, rfl, dk_m1 228 rfl rfl⟩
theorem dl_X2_55 : dk_F "DuckWalk$Guess" 55 5 1 := ⟨RX5, TX5, 2, _, tyX5, rfl, by decide, by decide, rfl, dl_ws5, tyX5_ok, nmX5, rfl, dk_m1 229 rfl rfl⟩
theorem dl_X8_170 : dk_F "DuckWalk" 170 5 1 := ⟨RX5, TX5, 2, _, tyX5, rfl, by decide, by decide, rfl, dl_ws5, tyX5_ok, nmX5, rfl, dk_m1 230 rfl rfl⟩
theorem dl_X6_9 : dk_F "DuckWalk$Script" 9 6 0 := ⟨RX6, TX6, 2, _, tyX6, rfl, by decide, by decide, rfl, dl_ws6, tyX6_ok, nmX6, rfl, dk_m2 1 rfl rfl⟩
theorem dl_X8_193 : dk_F "DuckWalk" 193 6 0 := ⟨RX6, TX6, 2, _, tyX6, rfl, by decide, by decide, rfl, dl_ws6, tyX6_ok, nmX6, rfl, dk_m2 2 rfl rfl⟩
theorem dl_X6_15 : dk_F "DuckWalk$Script" 15 6 1 := ⟨RX6, TX6, 2, _, tyX6, rfl, by decide, by decide, rfl, dl_ws6, tyX6_ok, nmX6, rfl, dk_m2 3 rfl rfl⟩
theorem dl_X4_35 : dk_F "DuckWalk$Reader" 35 6 1 := ⟨RX6, TX6, 2, _, tyX6, rfl, by decide, by decide, rfl, dl_ws6, tyX6_ok, nmX6, rfl, dk_m2 4 rfl rfl⟩
theorem dl_X8_11 : dk_F "DuckWalk" 11 8 0 := ⟨RX8, TX8, 15, _, tyX8, rfl, by decide, by decide, rfl, dl_ws8, tyX8_ok, nmX8, rfl, dk_m2 13 rfl rfl⟩
theorem dl_X8_17 : dk_F "DuckWalk" 17 8 1 := ⟨RX8, TX8, 15, _, tyX8, rfl, by decide, by decide, rfl, dl_ws8, tyX8_ok, nmX8, rfl, dk_m2 14 rfl rfl⟩
theorem dl_X8_23 : dk_F "DuckWalk" 23 8 2 := ⟨RX8, TX8, 15, _, tyX8, rfl, by decide, by decide, rfl, dl_ws8, tyX8_ok, nmX8, rfl, dk_m2 15 rfl rfl⟩
theorem dl_X8_29 : dk_F "DuckWalk" 29 8 3 := ⟨RX8, TX8, 15, _, tyX8, rfl, by decide, by decide, rfl, dl_ws8, tyX8_ok, nmX8, rfl, dk_m2 16 rfl rfl⟩
theorem dl_X8_36 : dk_F "DuckWalk" 36 8 4 := ⟨RX8, TX8, 15, _, tyX8, rfl, by decide, by decide, rfl, dl_ws8, tyX8_ok, nmX8, rfl, dk_m2 17 rfl rfl⟩
theorem dl_X8_40 : dk_F "DuckWalk" 40 8 5 := ⟨RX8, TX8, 15, _, tyX8, rfl, by decide, by decide, rfl, dl_ws8, tyX8_ok, nmX8, rfl, dk_m2 18 rfl rfl⟩
theorem dl_X8_47 : dk_F "DuckWalk" 47 8 6 := ⟨RX8, TX8, 15, _, tyX8, rfl, by decide, by decide, rfl, dl_ws8, tyX8_ok, nmX8, rfl, dk_m2 19 rfl rfl⟩
theorem dl_X8_54 : dk_F "DuckWalk" 54 8 7 := ⟨RX8, TX8, 15, _, tyX8, rfl, by decide, by decide, rfl, dl_ws8, tyX8_ok, nmX8, rfl, dk_m2 20 rfl rfl⟩
theorem dl_X8_58 : dk_F "DuckWalk" 58 8 8 := ⟨RX8, TX8, 15, _, tyX8, rfl, by decide, by decide, rfl, dl_ws8, tyX8_ok, nmX8, rfl, dk_m2 21 rfl rfl⟩
theorem dl_X8_64 : dk_F "DuckWalk" 64 8 9 := ⟨RX8, TX8, 15, _, tyX8, rfl, by decide, by decide, rfl, dl_ws8, tyX8_ok, nmX8, rfl, dk_m2 22 rfl rfl⟩
theorem dl_X8_68 : dk_F "DuckWalk" 68 8 10 := ⟨RX8, TX8, 15, _, tyX8, rfl, by decide, by decide, rfl, dl_ws8, tyX8_ok, nmX8, rfl, dk_m2 23 rfl rfl⟩
theorem dl_X8_72 : dk_F "DuckWalk" 72 8 11 := ⟨RX8, TX8, 15, _, tyX8, rfl, by decide, by decide, rfl, dl_ws8, tyX8_ok, nmX8, rfl, dk_m2 24 rfl rfl⟩
theorem dl_X8_76 : dk_F "DuckWalk" 76 8 12 := ⟨RX8, TX8, 15, _, tyX8, rfl, by decide, by decide, rfl, dl_ws8, tyX8_ok, nmX8, rfl, dk_m2 25 rfl rfl⟩
theorem dl_X8_79 : dk_F "DuckWalk" 79 8 13 := ⟨RX8, TX8, 15, _, tyX8, rfl, by decide, by decide, rfl, dl_ws8, tyX8_ok, nmX8, rfl, dk_m2 26 rfl rfl⟩
theorem dl_X8_83 : dk_F "DuckWalk" 83 8 14 := ⟨RX8, TX8, 15, _, tyX8, rfl, by decide, by decide, rfl, dl_ws8, tyX8_ok, nmX8, rfl, dk_m2 27 rfl rfl⟩
theorem dl_X9_76 : dk_F "DuckWalkModel" 76 9 0 := ⟨RX9, TX9, 41, _, tyX9, rfl, by decide, by decide, rfl, dl_ws9, tyX9_ok, nmX9, rfl, dk_m4 127 rfl rfl⟩
theorem dl_X9_7 : dk_F "DuckWalkModel" 7 9 1 := ⟨RX9, TX9, 41, _, tyX9, rfl, by decide, by decide, rfl, dl_ws9, tyX9_ok, nmX9, rfl, dk_m4 128 rfl rfl⟩
theorem dl_X9_84 : dk_F "DuckWalkModel" 84 9 2 := ⟨RX9, TX9, 41, _, tyX9, rfl, by decide, by decide, rfl, dl_ws9, tyX9_ok, nmX9, rfl, dk_m4 129 rfl rfl⟩
theorem dl_X9_87 : dk_F "DuckWalkModel" 87 9 3 := ⟨RX9, TX9, 41, _, tyX9, rfl, by decide, by decide, rfl, dl_ws9, tyX9_ok, nmX9, rfl, dk_m4 130 rfl rfl⟩
theorem dl_X9_72 : dk_F "DuckWalkModel" 72 9 4 := ⟨RX9, TX9, 41, _, tyX9, rfl, by decide, by decide, rfl, dl_ws9, tyX9_ok, nmX9, rfl, dk_m4 131 rfl rfl⟩
theorem dl_X9_13 : dk_F "DuckWalkModel" 13 9 5 := ⟨RX9, TX9, 41, _, tyX9, rfl, by decide, by decide, rfl, dl_ws9, tyX9_ok, nmX9, rfl, dk_m4 132 rfl rfl⟩
theorem dl_X9_16 : dk_F "DuckWalkModel" 16 9 6 := ⟨RX9, TX9, 41, _, tyX9, rfl, by decide, by decide, rfl, dl_ws9, tyX9_ok, nmX9, rfl, dk_m4 133 rfl rfl⟩
theorem dl_X9_19 : dk_F "DuckWalkModel" 19 9 7 := ⟨RX9, TX9, 41, _, tyX9, rfl, by decide, by decide, rfl, dl_ws9, tyX9_ok, nmX9, rfl, dk_m4 134 rfl rfl⟩
theorem dl_X9_22 : dk_F "DuckWalkModel" 22 9 8 := ⟨RX9, TX9, 41, _, tyX9, rfl, by decide, by decide, rfl, dl_ws9, tyX9_ok, nmX9, rfl, dk_m4 135 rfl rfl⟩
theorem dl_X9_25 : dk_F "DuckWalkModel" 25 9 9 := ⟨RX9, TX9, 41, _, tyX9, rfl, by decide, by decide, rfl, dl_ws9, tyX9_ok, nmX9, rfl, dk_m4 136 rfl rfl⟩
theorem dl_X9_29 : dk_F "DuckWalkModel" 29 9 10 := ⟨RX9, TX9, 41, _, tyX9, rfl, by decide, by decide, rfl, dl_ws9, tyX9_ok, nmX9, rfl, dk_m4 137 rfl rfl⟩
theorem dl_X9_33 : dk_F "DuckWalkModel" 33 9 11 := ⟨RX9, TX9, 41, _, tyX9, rfl, by decide, by decide, rfl, dl_ws9, tyX9_ok, nmX9, rfl, dk_m4 138 rfl rfl⟩
theorem dl_X9_36 : dk_F "DuckWalkModel" 36 9 12 := ⟨RX9, TX9, 41, _, tyX9, rfl, by decide, by decide, rfl, dl_ws9, tyX9_ok, nmX9, rfl, dk_m4 139 rfl rfl⟩
theorem dl_X9_39 : dk_F "DuckWalkModel" 39 9 13 := ⟨RX9, TX9, 41, _, tyX9, rfl, by decide, by decide, rfl, dl_ws9, tyX9_ok, nmX9, rfl, dk_m4 140 rfl rfl⟩
theorem dl_X9_108 : dk_F "DuckWalkModel" 108 9 14 := ⟨RX9, TX9, 41, _, tyX9, rfl, by decide, by decide, rfl, dl_ws9, tyX9_ok, nmX9, rfl, dk_m4 141 rfl rfl⟩
theorem dl_X9_114 : dk_F "DuckWalkModel" 114 9 15 := ⟨RX9, TX9, 41, _, tyX9, rfl, by decide, by decide, rfl, dl_ws9, tyX9_ok, nmX9, rfl, dk_m4 142 rfl rfl⟩
theorem dl_X9_127 : dk_F "DuckWalkModel" 127 9 16 := ⟨RX9, TX9, 41, _, tyX9, rfl, by decide, by decide, rfl, dl_ws9, tyX9_ok, nmX9, rfl, dk_m4 143 rfl rfl⟩
theorem dl_X9_42 : dk_F "DuckWalkModel" 42 9 17 := ⟨RX9, TX9, 41, _, tyX9, rfl, by decide, by decide, rfl, dl_ws9, tyX9_ok, nmX9, rfl, dk_m4 144 rfl rfl⟩
theorem dl_X9_45 : dk_F "DuckWalkModel" 45 9 18 := ⟨RX9, TX9, 41, _, tyX9, rfl, by decide, by decide, rfl, dl_ws9, tyX9_ok, nmX9, rfl, dk_m4 145 rfl rfl⟩
theorem dl_X9_48 : dk_F "DuckWalkModel" 48 9 19 := ⟨RX9, TX9, 41, _, tyX9, rfl, by decide, by decide, rfl, dl_ws9, tyX9_ok, nmX9, rfl, dk_m4 146 rfl rfl⟩
theorem dl_X9_145 : dk_F "DuckWalkModel" 145 9 20 := ⟨RX9, TX9, 41, _, tyX9, rfl, by decide, by decide, rfl, dl_ws9, tyX9_ok, nmX9, rfl, dk_m4 147 rfl rfl⟩
theorem dl_X9_148 : dk_F "DuckWalkModel" 148 9 21 := ⟨RX9, TX9, 41, _, tyX9, rfl, by decide, by decide, rfl, dl_ws9, tyX9_ok, nmX9, rfl, dk_m4 148 rfl rfl⟩
theorem dl_X9_51 : dk_F "DuckWalkModel" 51 9 22 := ⟨RX9, TX9, 41, _, tyX9, rfl, by decide, by decide, rfl, dl_ws9, tyX9_ok, nmX9, rfl, dk_m4 149 rfl rfl⟩
theorem dl_X9_151 : dk_F "DuckWalkModel" 151 9 23 := ⟨RX9, TX9, 41, _, tyX9, rfl, by decide, by decide, rfl, dl_ws9, tyX9_ok, nmX9, rfl, dk_m4 150 rfl rfl⟩
theorem dl_X9_176 : dk_F "DuckWalkModel" 176 9 24 := ⟨RX9, TX9, 41, _, tyX9, rfl, by decide, by decide, rfl, dl_ws9, tyX9_ok, nmX9, rfl, dk_m4 151 rfl rfl⟩
theorem dl_X9_154 : dk_F "DuckWalkModel" 154 9 25 := ⟨RX9, TX9, 41, _, tyX9, rfl, by decide, by decide, rfl, dl_ws9, tyX9_ok, nmX9, rfl, dk_m4 152 rfl rfl⟩
theorem dl_X9_157 : dk_F "DuckWalkModel" 157 9 26 := ⟨RX9, TX9, 41, _, tyX9, rfl, by decide, by decide, rfl, dl_ws9, tyX9_ok, nmX9, rfl, dk_m4 153 rfl rfl⟩
theorem dl_X9_160 : dk_F "DuckWalkModel" 160 9 27 := ⟨RX9, TX9, 41, _, tyX9, rfl, by decide, by decide, rfl, dl_ws9, tyX9_ok, nmX9, rfl, dk_m4 154 rfl rfl⟩
theorem dl_X9_163 : dk_F "DuckWalkModel" 163 9 28 := ⟨RX9, TX9, 41, _, tyX9, rfl, by decide, by decide, rfl, dl_ws9, tyX9_ok, nmX9, rfl, dk_m4 155 rfl rfl⟩
theorem dl_X9_166 : dk_F "DuckWalkModel" 166 9 29 := ⟨RX9, TX9, 41, _, tyX9, rfl, by decide, by decide, rfl, dl_ws9, tyX9_ok, nmX9, rfl, dk_m4 156 rfl rfl⟩
theorem dl_X9_54 : dk_F "DuckWalkModel" 54 9 30 := ⟨RX9, TX9, 41, _, tyX9, rfl, by decide, by decide, rfl, dl_ws9, tyX9_ok, nmX9, rfl, dk_m4 157 rfl rfl⟩
theorem dl_X9_57 : dk_F "DuckWalkModel" 57 9 31 := ⟨RX9, TX9, 41, _, tyX9, rfl, by decide, by decide, rfl, dl_ws9, tyX9_ok, nmX9, rfl, dk_m4 158 rfl rfl⟩
theorem dl_X9_60 : dk_F "DuckWalkModel" 60 9 32 := ⟨RX9, TX9, 41, _, tyX9, rfl, by decide, by decide, rfl, dl_ws9, tyX9_ok, nmX9, rfl, dk_m4 159 rfl rfl⟩
theorem dl_X9_63 : dk_F "DuckWalkModel" 63 9 33 := ⟨RX9, TX9, 41, _, tyX9, rfl, by decide, by decide, rfl, dl_ws9, tyX9_ok, nmX9, rfl, dk_m4 160 rfl rfl⟩
theorem dl_X9_209 : dk_F "DuckWalkModel" 209 9 34 := ⟨RX9, TX9, 41, _, tyX9, rfl, by decide, by decide, rfl, dl_ws9, tyX9_ok, nmX9, rfl, dk_m4 161 rfl rfl⟩
theorem dl_X9_203 : dk_F "DuckWalkModel" 203 9 35 := ⟨RX9, TX9, 41, _, tyX9, rfl, by decide, by decide, rfl, dl_ws9, tyX9_ok, nmX9, rfl, dk_m4 162 rfl rfl⟩
theorem dl_X9_212 : dk_F "DuckWalkModel" 212 9 36 := ⟨RX9, TX9, 41, _, tyX9, rfl, by decide, by decide, rfl, dl_ws9, tyX9_ok, nmX9, rfl, dk_m4 163 rfl rfl⟩
theorem dl_X9_215 : dk_F "DuckWalkModel" 215 9 37 := ⟨RX9, TX9, 41, _, tyX9, rfl, by decide, by decide, rfl, dl_ws9, tyX9_ok, nmX9, rfl, dk_m4 164 rfl rfl⟩
theorem dl_X9_66 : dk_F "DuckWalkModel" 66 9 38 := ⟨RX9, TX9, 41, _, tyX9, rfl, by decide, by decide, rfl, dl_ws9, tyX9_ok, nmX9, rfl, dk_m4 165 rfl rfl⟩
theorem dl_X9_69 : dk_F "DuckWalkModel" 69 9 39 := ⟨RX9, TX9, 41, _, tyX9, rfl, by decide, by decide, rfl, dl_ws9, tyX9_ok, nmX9, rfl, dk_m4 166 rfl rfl⟩
theorem dl_X9_267 : dk_F "DuckWalkModel" 267 9 40 := ⟨RX9, TX9, 41, _, tyX9, rfl, by decide, by decide, rfl, dl_ws9, tyX9_ok, nmX9, rfl, dk_m4 167 rfl rfl⟩
theorem dp_0_2 : dk_Fp 0 2 .boolean := fun C T N h => by cases h; exact ⟨rfl, by decide +kernel⟩
theorem dp_0_3 : dk_Fp 0 3 .int := fun C T N h => by cases h; exact ⟨rfl, by decide +kernel⟩
theorem dp_0_4 : dk_Fp 0 4 .int := fun C T N h => by cases h; exact ⟨rfl, by decide +kernel⟩
theorem dp_0_5 : dk_Fp 0 5 .int := fun C T N h => by cases h; exact ⟨rfl, by decide +kernel⟩
theorem dp_0_6 : dk_Fp 0 6 .int := fun C T N h => by cases h; exact ⟨rfl, by decide +kernel⟩
theorem dp_0_7 : dk_Fp 0 7 .int := fun C T N h => by cases h; exact ⟨rfl, by decide +kernel⟩
theorem dp_0_8 : dk_Fp 0 8 .int := fun C T N h => by cases h; exact ⟨rfl, by decide +kernel⟩
theorem dp_0_9 : dk_Fp 0 9 .int := fun C T N h => by cases h; exact ⟨rfl, by decide +kernel⟩
theorem dp_1_1 : dk_Fp 1 1 .int := fun C T N h => by cases h; exact ⟨rfl, by decide +kernel⟩
theorem dp_1_2 : dk_Fp 1 2 .boolean := fun C T N h => by cases h; exact ⟨rfl, by decide +kernel⟩
theorem dp_2_0 : dk_Fp 2 0 .int := fun C T N h => by cases h; exact ⟨rfl, by decide +kernel⟩
theorem dp_2_1 : dk_Fp 2 1 .int := fun C T N h => by cases h; exact ⟨rfl, by decide +kernel⟩
theorem dp_2_2 : dk_Fp 2 2 .int := fun C T N h => by cases h; exact ⟨rfl, by decide +kernel⟩
theorem dp_2_3 : dk_Fp 2 3 .int := fun C T N h => by cases h; exact ⟨rfl, by decide +kernel⟩
theorem dp_3_1 : dk_Fp 3 1 .int := fun C T N h => by cases h; exact ⟨rfl, by decide +kernel⟩
theorem dp_3_2 : dk_Fp 3 2 .boolean := fun C T N h => by cases h; exact ⟨rfl, by decide +kernel⟩
theorem dp_4_2 : dk_Fp 4 2 .int := fun C T N h => by cases h; exact ⟨rfl, by decide +kernel⟩
theorem dp_4_3 : dk_Fp 4 3 .int := fun C T N h => by cases h; exact ⟨rfl, by decide +kernel⟩
theorem dp_5_1 : dk_Fp 5 1 .int := fun C T N h => by cases h; exact ⟨rfl, by decide +kernel⟩
theorem dp_6_1 : dk_Fp 6 1 .int := fun C T N h => by cases h; exact ⟨rfl, by decide +kernel⟩
theorem dp_7_1 : dk_Fp 7 1 .int := fun C T N h => by cases h; exact ⟨rfl, by decide +kernel⟩
theorem dp_7_2 : dk_Fp 7 2 .int := fun C T N h => by cases h; exact ⟨rfl, by decide +kernel⟩
theorem dp_7_3 : dk_Fp 7 3 .int := fun C T N h => by cases h; exact ⟨rfl, by decide +kernel⟩
theorem dp_7_4 : dk_Fp 7 4 .int := fun C T N h => by cases h; exact ⟨rfl, by decide +kernel⟩
theorem dp_7_7 : dk_Fp 7 7 .long := fun C T N h => by cases h; exact ⟨rfl, by decide +kernel⟩
theorem dp_8_11 : dk_Fp 8 11 .int := fun C T N h => by cases h; exact ⟨rfl, by decide +kernel⟩
theorem dp_8_12 : dk_Fp 8 12 .int := fun C T N h => by cases h; exact ⟨rfl, by decide +kernel⟩
theorem dp_8_13 : dk_Fp 8 13 .long := fun C T N h => by cases h; exact ⟨rfl, by decide +kernel⟩
theorem dp_8_14 : dk_Fp 8 14 .long := fun C T N h => by cases h; exact ⟨rfl, by decide +kernel⟩
theorem dp_9_0 : dk_Fp 9 0 .int := fun C T N h => by cases h; exact ⟨rfl, by decide +kernel⟩
theorem dp_9_2 : dk_Fp 9 2 .int := fun C T N h => by cases h; exact ⟨rfl, by decide +kernel⟩
theorem dp_9_3 : dk_Fp 9 3 .long := fun C T N h => by cases h; exact ⟨rfl, by decide +kernel⟩
theorem dp_9_4 : dk_Fp 9 4 .long := fun C T N h => by cases h; exact ⟨rfl, by decide +kernel⟩
theorem dp_9_14 : dk_Fp 9 14 .int := fun C T N h => by cases h; exact ⟨rfl, by decide +kernel⟩
theorem dp_9_15 : dk_Fp 9 15 .int := fun C T N h => by cases h; exact ⟨rfl, by decide +kernel⟩
theorem dp_9_16 : dk_Fp 9 16 .int := fun C T N h => by cases h; exact ⟨rfl, by decide +kernel⟩
theorem dp_9_20 : dk_Fp 9 20 .int := fun C T N h => by cases h; exact ⟨rfl, by decide +kernel⟩
theorem dp_9_21 : dk_Fp 9 21 .int := fun C T N h => by cases h; exact ⟨rfl, by decide +kernel⟩
theorem dp_9_23 : dk_Fp 9 23 .int := fun C T N h => by cases h; exact ⟨rfl, by decide +kernel⟩
theorem dp_9_24 : dk_Fp 9 24 .int := fun C T N h => by cases h; exact ⟨rfl, by decide +kernel⟩
theorem dp_9_25 : dk_Fp 9 25 .int := fun C T N h => by cases h; exact ⟨rfl, by decide +kernel⟩
theorem dp_9_26 : dk_Fp 9 26 .int := fun C T N h => by cases h; exact ⟨rfl, by decide +kernel⟩
theorem dp_9_27 : dk_Fp 9 27 .int := fun C T N h => by cases h; exact ⟨rfl, by decide +kernel⟩
theorem dp_9_28 : dk_Fp 9 28 .int := fun C T N h => by cases h; exact ⟨rfl, by decide +kernel⟩
theorem dp_9_29 : dk_Fp 9 29 .int := fun C T N h => by cases h; exact ⟨rfl, by decide +kernel⟩
theorem dp_9_34 : dk_Fp 9 34 .int := fun C T N h => by cases h; exact ⟨rfl, by decide +kernel⟩
theorem dp_9_35 : dk_Fp 9 35 .int := fun C T N h => by cases h; exact ⟨rfl, by decide +kernel⟩
theorem dp_9_36 : dk_Fp 9 36 .int := fun C T N h => by cases h; exact ⟨rfl, by decide +kernel⟩
theorem dp_9_37 : dk_Fp 9 37 .int := fun C T N h => by cases h; exact ⟨rfl, by decide +kernel⟩
theorem dp_9_40 : dk_Fp 9 40 .long := fun C T N h => by cases h; exact ⟨rfl, by decide +kernel⟩
theorem dw_L_13 : dk_WV "DuckWalkLaw" 13 yX8_row cX8_row 3 (some .int) 2 := ⟨dk_m2 59 rfl rfl, dk_m2 60 rfl rfl, dk_m2 61 rfl rfl, dk_m1 1 rfl rfl, dk_m2 62 rfl rfl, by decide, by decide, by decide +kernel⟩
theorem dw_X8_147 : dk_WS "DuckWalk" 147 yX8_noRow cX8_noRow 1 (some .boolean) 1 := ⟨dk_m2 63 rfl rfl, dk_m2 64 rfl rfl, dk_m1 1 rfl rfl, dk_m2 65 rfl rfl, by decide, by decide, by decide +kernel⟩
theorem dw_X8_90 : dk_WS "DuckWalk" 90 yX8_isOutside cX8_isOutside 3 (some .boolean) 3 := ⟨dk_m2 66 rfl rfl, dk_m2 67 rfl rfl, dk_m1 1 rfl rfl, dk_m2 68 rfl rfl, by decide, by decide, by decide +kernel⟩
theorem dw_X8_150 : dk_WV "DuckWalk" 150 yX8_found cX8_found 2 (some .int) 1 := ⟨dk_m2 69 rfl rfl, dk_m2 71 rfl rfl, dk_mp 0 rfl rfl, dk_m1 1 rfl rfl, dk_m2 72 rfl rfl, by decide, by decide, by decide +kernel⟩
theorem dw_X8_153 : dk_WV "DuckWalk" 153 yX5_renew cX5_renew 2 none 1 := ⟨dk_m2 73 rfl rfl, dk_m2 74 rfl rfl, dk_m2 75 rfl rfl, dk_m1 8 rfl rfl, dk_m2 76 rfl rfl, by decide, by decide, by decide +kernel⟩
theorem dw_X5_19 : dk_WS "DuckWalk$Row" 19 yJ7_fill_53178 cJ7_fill_53178 4 none 2 := ⟨dk_m2 77 rfl rfl, dk_m2 78 rfl rfl, dk_m1 11 rfl rfl, dk_m2 79 rfl rfl, by decide, by decide, by decide +kernel⟩
theorem dw_L_18 : dk_WV "DuckWalkLaw" 18 yX8_lay cX8_lay 6 (some .int) 3 := ⟨dk_m2 80 rfl rfl, dk_m2 81 rfl rfl, dk_m2 82 rfl rfl, dk_m1 1 rfl rfl, dk_m2 83 rfl rfl, by decide, by decide, by decide +kernel⟩
theorem dw_X8_157 : dk_WV "DuckWalk" 157 yX5_isMissing cX5_isMissing 1 (some .boolean) 0 := ⟨dk_m2 84 rfl rfl, dk_m2 85 rfl rfl, dk_m2 86 rfl rfl, dk_m1 8 rfl rfl, dk_m2 87 rfl rfl, by decide, by decide, by decide +kernel⟩
theorem dw_X8_161 : dk_WV "DuckWalk" 161 yX5_has cX5_has 2 (some .boolean) 1 := ⟨dk_m2 88 rfl rfl, dk_m2 89 rfl rfl, dk_m2 90 rfl rfl, dk_m1 8 rfl rfl, dk_m2 91 rfl rfl, by decide, by decide, by decide +kernel⟩
theorem dw_X8_167 : dk_WV "DuckWalk" 167 yX8_tell cX8_tell 2 (some .int) 1 := ⟨dk_m2 92 rfl rfl, dk_m2 94 rfl rfl, dk_mp 1 rfl rfl, dk_m1 1 rfl rfl, dk_m2 95 rfl rfl, by decide, by decide, by decide +kernel⟩
theorem dw_L_23 : dk_WV "DuckWalkLaw" 23 yX8_at cX8_at 4 (some .int) 2 := ⟨dk_m2 96 rfl rfl, dk_m2 97 rfl rfl, dk_m2 98 rfl rfl, dk_m1 1 rfl rfl, dk_m2 99 rfl rfl, by decide, by decide, by decide +kernel⟩
theorem dw_L_27 : dk_WV "DuckWalkLaw" 27 yX8_tear cX8_tear 2 (some .int) 1 := ⟨dk_m2 100 rfl rfl, dk_m2 101 rfl rfl, dk_m2 102 rfl rfl, dk_m1 1 rfl rfl, dk_m2 103 rfl rfl, by decide, by decide, by decide +kernel⟩
theorem dw_L_32 : dk_WV "DuckWalkLaw" 32 yX8_copy cX8_copy 6 (some .int) 5 := ⟨dk_m2 104 rfl rfl, dk_m2 105 rfl rfl, dk_m2 106 rfl rfl, dk_m1 1 rfl rfl, dk_m2 107 rfl rfl, by decide, by decide, by decide +kernel⟩
theorem dw_X8_173 : dk_WV "DuckWalk" 173 yX5_hasSpan cX5_hasSpan 3 (some .boolean) 2 := ⟨dk_m2 108 rfl rfl, dk_m2 109 rfl rfl, dk_m2 110 rfl rfl, dk_m1 8 rfl rfl, dk_m2 111 rfl rfl, by decide, by decide, by decide +kernel⟩
theorem dw_L_37 : dk_WV "DuckWalkLaw" 37 yX8_mean cX8_mean 3 (some .int) 1 := ⟨dk_m2 115 rfl rfl, dk_m2 116 rfl rfl, dk_m2 117 rfl rfl, dk_m1 1 rfl rfl, dk_m2 118 rfl rfl, by decide, by decide, by decide +kernel⟩
theorem dw_X8_183 : dk_WV "DuckWalk" 183 yX5_sum cX5_sum 4 (some .long) 0 := ⟨dk_m2 119 rfl rfl, dk_m2 120 rfl rfl, dk_m2 121 rfl rfl, dk_m1 8 rfl rfl, dk_m2 122 rfl rfl, by decide, by decide, by decide +kernel⟩
theorem dw_L_41 : dk_WV "DuckWalkLaw" 41 yX8_text cX8_text 3 (some .int) 2 := ⟨dk_m2 123 rfl rfl, dk_m2 124 rfl rfl, dk_m2 125 rfl rfl, dk_m1 1 rfl rfl, dk_m2 126 rfl rfl, by decide, by decide, by decide +kernel⟩
theorem dw_X8_187 : dk_WS "DuckWalk" 187 yX8_noText cX8_noText 1 (some .boolean) 1 := ⟨dk_m2 127 rfl rfl, dk_m2 128 rfl rfl, dk_m1 1 rfl rfl, dk_m2 129 rfl rfl, by decide, by decide, by decide +kernel⟩
theorem dw_X8_190 : dk_WV "DuckWalk" 190 yX6_renew cX6_renew 2 none 1 := ⟨dk_m2 130 rfl rfl, dk_m2 131 rfl rfl, dk_m2 132 rfl rfl, dk_m1 9 rfl rfl, dk_m2 133 rfl rfl, by decide, by decide, by decide +kernel⟩
theorem dw_X6_19 : dk_WS "DuckWalk$Script" 19 yJ7_fill_031fb cJ7_fill_031fb 4 none 2 := ⟨dk_m2 134 rfl rfl, dk_m2 135 rfl rfl, dk_m1 11 rfl rfl, dk_m2 136 rfl rfl, by decide, by decide, by decide +kernel⟩
theorem dw_L_45 : dk_WV "DuckWalkLaw" 45 yX8_put cX8_put 6 (some .int) 3 := ⟨dk_m2 137 rfl rfl, dk_m2 138 rfl rfl, dk_m2 139 rfl rfl, dk_m1 1 rfl rfl, dk_m2 140 rfl rfl, by decide, by decide, by decide +kernel⟩
theorem dw_X8_191 : dk_WV "DuckWalk" 191 yX6_isMissing cX6_isMissing 1 (some .boolean) 0 := ⟨dk_m2 141 rfl rfl, dk_m2 142 rfl rfl, dk_m2 143 rfl rfl, dk_m1 9 rfl rfl, dk_m2 144 rfl rfl, by decide, by decide, by decide +kernel⟩
theorem dw_X8_192 : dk_WV "DuckWalk" 192 yX6_has cX6_has 2 (some .boolean) 1 := ⟨dk_m2 145 rfl rfl, dk_m2 146 rfl rfl, dk_m2 147 rfl rfl, dk_m1 9 rfl rfl, dk_m2 148 rfl rfl, by decide, by decide, by decide +kernel⟩
theorem dw_L_49 : dk_WV "DuckWalkLaw" 49 yX8_fault cX8_fault 3 (some .int) 2 := ⟨dk_m2 149 rfl rfl, dk_m2 150 rfl rfl, dk_m2 151 rfl rfl, dk_m1 1 rfl rfl, dk_m2 152 rfl rfl, by decide, by decide, by decide +kernel⟩
theorem dw_X8_197 : dk_WV "DuckWalk" 197 yX4_readPlank cX4_readPlank 5 (some .int) 1 := ⟨dk_m2 153 rfl rfl, dk_m2 154 rfl rfl, dk_m2 155 rfl rfl, dk_m1 5 rfl rfl, dk_m2 156 rfl rfl, by decide, by decide, by decide +kernel⟩
theorem dw_X4_48 : dk_WV "DuckWalk$Reader" 48 yX3_clear cX3_clear 1 none 0 := ⟨dk_m2 157 rfl rfl, dk_m2 158 rfl rfl, dk_m2 159 rfl rfl, dk_m1 4 rfl rfl, dk_m2 160 rfl rfl, by decide, by decide, by decide +kernel⟩
theorem dw_X3_23 : dk_WS "DuckWalk$Plank" 23 yJ7_fill_53178 cJ7_fill_53178 4 none 2 := ⟨dk_m2 161 rfl rfl, dk_m2 78 rfl rfl, dk_m1 11 rfl rfl, dk_m2 79 rfl rfl, by decide, by decide, by decide +kernel⟩
theorem dw_X4_40 : dk_WV "DuckWalk$Reader" 40 yX6_sign cX6_sign 2 (some .int) 1 := ⟨dk_m2 162 rfl rfl, dk_m2 163 rfl rfl, dk_m2 164 rfl rfl, dk_m1 9 rfl rfl, dk_m2 165 rfl rfl, by decide, by decide, by decide +kernel⟩
theorem dw_X6_25 : dk_WV "DuckWalk$Script" 25 yX6_has cX6_has 2 (some .boolean) 1 := ⟨dk_m2 166 rfl rfl, dk_m2 146 rfl rfl, dk_m2 147 rfl rfl, dk_m1 9 rfl rfl, dk_m2 148 rfl rfl, by decide, by decide, by decide +kernel⟩
theorem dw_X4_49 : dk_WV "DuckWalk$Reader" 49 yX4_readRub cX4_readRub 4 (some .int) 2 := ⟨dk_m2 167 rfl rfl, dk_m2 169 rfl rfl, dk_mp 2 rfl rfl, dk_m1 5 rfl rfl, dk_m2 170 rfl rfl, by decide, by decide, by decide +kernel⟩
theorem dw_X4_68 : dk_WV "DuckWalk$Reader" 68 yX6_figure cX6_figure 3 (some .int) 1 := ⟨dk_m2 171 rfl rfl, dk_m2 172 rfl rfl, dk_m2 173 rfl rfl, dk_m1 9 rfl rfl, dk_m2 174 rfl rfl, by decide, by decide, by decide +kernel⟩
theorem dw_X6_29 : dk_WV "DuckWalk$Script" 29 yX6_sign cX6_sign 2 (some .int) 1 := ⟨dk_m2 175 rfl rfl, dk_m2 163 rfl rfl, dk_m2 164 rfl rfl, dk_m1 9 rfl rfl, dk_m2 165 rfl rfl, by decide, by decide, by decide +kernel⟩
theorem dw_X6_33 : dk_WN "DuckWalk$Script" 33 yX8_isOutside cX8_isOutside 3 (some .boolean) 3 := ⟨⟨_, List.mem_of_getElem? (i := 2) rfl⟩, dk_m2 67 rfl rfl, dk_m1 1 rfl rfl, dk_m2 68 rfl rfl, by decide, by decide, by decide +kernel⟩
theorem dw_X4_58 : dk_WV "DuckWalk$Reader" 58 yX4_faultAt cX4_faultAt 2 (some .int) 1 := ⟨dk_m2 177 rfl rfl, dk_m2 179 rfl rfl, dk_mp 3 rfl rfl, dk_m1 5 rfl rfl, dk_m2 180 rfl rfl, by decide, by decide, by decide +kernel⟩
theorem dw_X4_52 : dk_WV "DuckWalk$Reader" 52 yX4_readBump cX4_readBump 6 (some .int) 2 := ⟨dk_m2 181 rfl rfl, dk_m2 183 rfl rfl, dk_mp 4 rfl rfl, dk_m1 5 rfl rfl, dk_m2 184 rfl rfl, by decide, by decide, by decide +kernel⟩
theorem dw_X8_201 : dk_WV "DuckWalk" 201 yX4_readDuck cX4_readDuck 4 (some .int) 1 := ⟨dk_m2 185 rfl rfl, dk_m2 186 rfl rfl, dk_m2 187 rfl rfl, dk_m1 5 rfl rfl, dk_m2 188 rfl rfl, by decide, by decide, by decide +kernel⟩
theorem dw_X4_32 : dk_WV "DuckWalk$Reader" 32 yX1_clear cX1_clear 1 none 0 := ⟨dk_m2 189 rfl rfl, dk_m2 190 rfl rfl, dk_m2 191 rfl rfl, dk_m1 3 rfl rfl, dk_m2 192 rfl rfl, by decide, by decide, by decide +kernel⟩
theorem dw_X1_23 : dk_WS "DuckWalk$Duck" 23 yJ7_fill_fda19 cJ7_fill_fda19 5 none 4 := ⟨dk_m2 193 rfl rfl, dk_m2 194 rfl rfl, dk_m1 11 rfl rfl, dk_m2 195 rfl rfl, by decide, by decide, by decide +kernel⟩
theorem dw_J7_13 : dk_WS "java/util/Arrays" 13 yJ7_rangeCheck_23922 cJ7_rangeCheck_23922 3 none 3 := ⟨dk_m2 196 rfl rfl, dk_m2 197 rfl rfl, dk_m1 11 rfl rfl, dk_m2 198 rfl rfl, by decide, by decide, by decide +kernel⟩
theorem dw_X4_44 : dk_WV "DuckWalk$Reader" 44 yX4_readSize cX4_readSize 6 (some .int) 2 := ⟨dk_m2 199 rfl rfl, dk_m2 201 rfl rfl, dk_mp 5 rfl rfl, dk_m1 5 rfl rfl, dk_m2 202 rfl rfl, by decide, by decide, by decide +kernel⟩
theorem dw_X4_55 : dk_WS "DuckWalk$Reader" 55 yX4_sizeOf cX4_sizeOf 1 (some .int) 1 := ⟨dk_m2 203 rfl rfl, dk_m2 204 rfl rfl, dk_m1 5 rfl rfl, dk_m2 205 rfl rfl, by decide, by decide, by decide +kernel⟩
theorem dw_L_54 : dk_WV "DuckWalkLaw" 54 yX8_walker cX8_walker 3 (some .int) 2 := ⟨dk_m2 206 rfl rfl, dk_m2 207 rfl rfl, dk_m2 208 rfl rfl, dk_m1 1 rfl rfl, dk_m2 209 rfl rfl, by decide, by decide, by decide +kernel⟩
theorem dw_X8_94 : dk_WS "DuckWalk" 94 yX8_noWalker cX8_noWalker 1 (some .boolean) 1 := ⟨dk_m2 210 rfl rfl, dk_m2 211 rfl rfl, dk_m1 1 rfl rfl, dk_m2 212 rfl rfl, by decide, by decide, by decide +kernel⟩
theorem dw_X8_120 : dk_WV "DuckWalk" 120 yX1_take cX1_take 2 none 1 := ⟨dk_m2 213 rfl rfl, dk_m2 214 rfl rfl, dk_m2 215 rfl rfl, dk_m1 3 rfl rfl, dk_m2 216 rfl rfl, by decide, by decide, by decide +kernel⟩
theorem dw_X8_208 : dk_WS "DuckWalk" 208 yJ6_bitCount_0f7a4 cJ6_bitCount_0f7a4 1 (some .int) 1 := ⟨dk_m2 218 rfl rfl, dk_m2 219 rfl rfl, dk_m1 13 rfl rfl, dk_m2 220 rfl rfl, by decide, by decide, by decide +kernel⟩
theorem dw_L_58 : dk_WV "DuckWalkLaw" 58 yX8_board cX8_board 3 (some .int) 2 := ⟨dk_m2 224 rfl rfl, dk_m2 225 rfl rfl, dk_m2 226 rfl rfl, dk_m1 1 rfl rfl, dk_m2 227 rfl rfl, by decide, by decide, by decide +kernel⟩
theorem dw_X8_98 : dk_WS "DuckWalk" 98 yX8_noBoard cX8_noBoard 1 (some .boolean) 1 := ⟨dk_m2 228 rfl rfl, dk_m2 229 rfl rfl, dk_m1 1 rfl rfl, dk_m2 230 rfl rfl, by decide, by decide, by decide +kernel⟩
theorem dw_X8_214 : dk_WV "DuckWalk" 214 yX3_take cX3_take 2 none 1 := ⟨dk_m2 231 rfl rfl, dk_m2 232 rfl rfl, dk_m2 233 rfl rfl, dk_m1 4 rfl rfl, dk_m2 234 rfl rfl, by decide, by decide, by decide +kernel⟩
theorem dw_L_62 : dk_WV "DuckWalkLaw" 62 yX8_about cX8_about 3 (some .int) 2 := ⟨dk_m2 236 rfl rfl, dk_m2 237 rfl rfl, dk_m2 238 rfl rfl, dk_m1 1 rfl rfl, dk_m2 239 rfl rfl, by decide, by decide, by decide +kernel⟩
theorem dw_X8_220 : dk_WV "DuckWalk" 220 yX1_value cX1_value 2 (some .int) 1 := ⟨dk_m3 0 rfl rfl, dk_m3 1 rfl rfl, dk_m3 2 rfl rfl, dk_m1 3 rfl rfl, dk_m3 3 rfl rfl, by decide, by decide, by decide +kernel⟩
theorem dw_X1_39 : dk_WN "DuckWalk$Duck" 39 yX8_isOutside cX8_isOutside 3 (some .boolean) 3 := ⟨⟨_, List.mem_of_getElem? (i := 0) rfl⟩, dk_m2 67 rfl rfl, dk_m1 1 rfl rfl, dk_m2 68 rfl rfl, by decide, by decide, by decide +kernel⟩
theorem dw_L_66 : dk_WV "DuckWalkLaw" 66 yX8_rub cX8_rub 3 (some .int) 2 := ⟨dk_m3 5 rfl rfl, dk_m3 6 rfl rfl, dk_m3 7 rfl rfl, dk_m1 1 rfl rfl, dk_m3 8 rfl rfl, by decide, by decide, by decide +kernel⟩
theorem dw_X8_223 : dk_WV "DuckWalk" 223 yX3_bumpsOf cX3_bumpsOf 2 (some .int) 1 := ⟨dk_m3 9 rfl rfl, dk_m3 10 rfl rfl, dk_m3 11 rfl rfl, dk_m1 4 rfl rfl, dk_m3 12 rfl rfl, by decide, by decide, by decide +kernel⟩
theorem dw_X3_35 : dk_WN "DuckWalk$Plank" 35 yX8_isOutside cX8_isOutside 3 (some .boolean) 3 := ⟨⟨_, List.mem_of_getElem? (i := 1) rfl⟩, dk_m2 67 rfl rfl, dk_m1 1 rfl rfl, dk_m2 68 rfl rfl, by decide, by decide, by decide +kernel⟩
theorem dw_L_70 : dk_WV "DuckWalkLaw" 70 yX8_wax cX8_wax 5 (some .int) 3 := ⟨dk_m3 14 rfl rfl, dk_m3 15 rfl rfl, dk_m3 16 rfl rfl, dk_m1 1 rfl rfl, dk_m3 17 rfl rfl, by decide, by decide, by decide +kernel⟩
theorem dw_L_74 : dk_WV "DuckWalkLaw" 74 yX8_walk cX8_walk 6 (some .int) 5 := ⟨dk_m3 18 rfl rfl, dk_m3 19 rfl rfl, dk_m3 20 rfl rfl, dk_m1 1 rfl rfl, dk_m3 21 rfl rfl, by decide, by decide, by decide +kernel⟩
theorem dw_X8_229 : dk_WS "DuckWalk" 229 yX8_noGoing cX8_noGoing 4 (some .boolean) 4 := ⟨dk_m3 22 rfl rfl, dk_m3 23 rfl rfl, dk_m1 1 rfl rfl, dk_m3 24 rfl rfl, by decide, by decide, by decide +kernel⟩
theorem dw_X8_104 : dk_WS "DuckWalk" 104 yX8_noPair cX8_noPair 3 (some .boolean) 3 := ⟨dk_m3 25 rfl rfl, dk_m3 26 rfl rfl, dk_m1 1 rfl rfl, dk_m3 27 rfl rfl, by decide, by decide, by decide +kernel⟩
theorem dw_X8_101 : dk_WS "DuckWalk" 101 yX8_noPace cX8_noPace 1 (some .boolean) 1 := ⟨dk_m3 28 rfl rfl, dk_m3 29 rfl rfl, dk_m1 1 rfl rfl, dk_m3 30 rfl rfl, by decide, by decide, by decide +kernel⟩
theorem dw_X8_107 : dk_WS "DuckWalk" 107 yX8_noSlope cX8_noSlope 1 (some .boolean) 1 := ⟨dk_m3 31 rfl rfl, dk_m3 32 rfl rfl, dk_m1 1 rfl rfl, dk_m3 33 rfl rfl, by decide, by decide, by decide +kernel⟩
theorem dw_X8_233 : dk_WV "DuckWalk" 233 yX0_begin cX0_begin 4 none 3 := ⟨dk_m3 34 rfl rfl, dk_m3 35 rfl rfl, dk_m3 36 rfl rfl, dk_m1 2 rfl rfl, dk_m3 37 rfl rfl, by decide, by decide, by decide +kernel⟩
theorem dw_X8_238 : dk_WV "DuckWalk" 238 yX1_gain cX1_gain 3 (some .int) 2 := ⟨dk_m3 38 rfl rfl, dk_m3 39 rfl rfl, dk_m3 40 rfl rfl, dk_m1 3 rfl rfl, dk_m3 41 rfl rfl, by decide, by decide, by decide +kernel⟩
theorem dw_L_78 : dk_WV "DuckWalkLaw" 78 yX8_go cX8_go 2 (some .int) 1 := ⟨dk_m3 42 rfl rfl, dk_m3 43 rfl rfl, dk_m3 44 rfl rfl, dk_m1 1 rfl rfl, dk_m3 45 rfl rfl, by decide, by decide, by decide +kernel⟩
theorem dw_X8_244 : dk_WV "DuckWalk" 244 yX0_strideOn cX0_strideOn 3 (some .int) 1 := ⟨dk_m3 46 rfl rfl, dk_m3 47 rfl rfl, dk_m3 48 rfl rfl, dk_m1 2 rfl rfl, dk_m3 49 rfl rfl, by decide, by decide, by decide +kernel⟩
theorem dw_X0_80 : dk_WV "DuckWalk$Course" 80 yX0_stride cX0_stride 3 (some .boolean) 0 := ⟨dk_m3 50 rfl rfl, dk_m3 51 rfl rfl, dk_m3 52 rfl rfl, dk_m1 2 rfl rfl, dk_m3 53 rfl rfl, by decide, by decide, by decide +kernel⟩
theorem dw_X0_58 : dk_WV "DuckWalk$Course" 58 yX1_damp cX1_damp 1 (some .int) 0 := ⟨dk_m3 54 rfl rfl, dk_m3 55 rfl rfl, dk_m3 56 rfl rfl, dk_m1 3 rfl rfl, dk_m3 57 rfl rfl, by decide, by decide, by decide +kernel⟩
theorem dw_X1_43 : dk_WS "DuckWalk$Duck" 43 yJ9_max_7cf53 cJ9_max_7cf53 2 (some .int) 2 := ⟨dk_m3 58 rfl rfl, dk_m3 59 rfl rfl, dk_m1 14 rfl rfl, dk_m3 60 rfl rfl, by decide, by decide, by decide +kernel⟩
theorem dw_X0_62 : dk_WV "DuckWalk$Course" 62 yX1_gain cX1_gain 3 (some .int) 2 := ⟨dk_m3 61 rfl rfl, dk_m3 39 rfl rfl, dk_m3 40 rfl rfl, dk_m1 3 rfl rfl, dk_m3 41 rfl rfl, by decide, by decide, by decide +kernel⟩
theorem dw_X0_69 : dk_WV "DuckWalk$Course" 69 yX3_bumpsOf cX3_bumpsOf 2 (some .int) 1 := ⟨dk_m3 62 rfl rfl, dk_m3 10 rfl rfl, dk_m3 11 rfl rfl, dk_m1 4 rfl rfl, dk_m3 12 rfl rfl, by decide, by decide, by decide +kernel⟩
theorem dw_X0_73 : dk_WV "DuckWalk$Course" 73 yX1_limit cX1_limit 1 (some .int) 0 := ⟨dk_m3 63 rfl rfl, dk_m3 64 rfl rfl, dk_m3 65 rfl rfl, dk_m1 3 rfl rfl, dk_m3 66 rfl rfl, by decide, by decide, by decide +kernel⟩
theorem dw_L_82 : dk_WV "DuckWalkLaw" 82 yX8_told cX8_told 2 (some .int) 1 := ⟨dk_m3 67 rfl rfl, dk_m3 68 rfl rfl, dk_m3 69 rfl rfl, dk_m1 1 rfl rfl, dk_m3 70 rfl rfl, by decide, by decide, by decide +kernel⟩
theorem dw_X8_247 : dk_WV "DuckWalk" 247 yX0_value cX0_value 2 (some .int) 1 := ⟨dk_m3 71 rfl rfl, dk_m3 72 rfl rfl, dk_m3 73 rfl rfl, dk_m1 2 rfl rfl, dk_m3 74 rfl rfl, by decide, by decide, by decide +kernel⟩
theorem dw_L_86 : dk_WV "DuckWalkLaw" 86 yX8_tocks cX8_tocks 4 (some .int) 2 := ⟨dk_m3 75 rfl rfl, dk_m3 76 rfl rfl, dk_m3 77 rfl rfl, dk_m1 1 rfl rfl, dk_m3 78 rfl rfl, by decide, by decide, by decide +kernel⟩
theorem dw_X8_248 : dk_WV "DuckWalk" 248 yX0_stride cX0_stride 3 (some .boolean) 0 := ⟨dk_m3 79 rfl rfl, dk_m3 51 rfl rfl, dk_m3 52 rfl rfl, dk_m1 2 rfl rfl, dk_m3 53 rfl rfl, by decide, by decide, by decide +kernel⟩
theorem dw_L_90 : dk_WV "DuckWalkLaw" 90 yX8_tilt cX8_tilt 3 (some .int) 1 := ⟨dk_m3 80 rfl rfl, dk_m3 81 rfl rfl, dk_m3 82 rfl rfl, dk_m1 1 rfl rfl, dk_m3 83 rfl rfl, by decide, by decide, by decide +kernel⟩
theorem dw_L_94 : dk_WV "DuckWalkLaw" 94 yX8_keep cX8_keep 2 (some .int) 1 := ⟨dk_m3 84 rfl rfl, dk_m3 85 rfl rfl, dk_m3 86 rfl rfl, dk_m1 1 rfl rfl, dk_m3 87 rfl rfl, by decide, by decide, by decide +kernel⟩
theorem dw_X8_257 : dk_WV "DuckWalk" 257 yX0_take cX0_take 2 none 1 := ⟨dk_m3 88 rfl rfl, dk_m3 89 rfl rfl, dk_m3 90 rfl rfl, dk_m1 2 rfl rfl, dk_m3 91 rfl rfl, by decide, by decide, by decide +kernel⟩
theorem dw_X0_51 : dk_WV "DuckWalk$Course" 51 yX1_take cX1_take 2 none 1 := ⟨dk_m3 92 rfl rfl, dk_m2 214 rfl rfl, dk_m2 215 rfl rfl, dk_m1 3 rfl rfl, dk_m2 216 rfl rfl, by decide, by decide, by decide +kernel⟩
theorem dw_X0_55 : dk_WV "DuckWalk$Course" 55 yX3_take cX3_take 2 none 1 := ⟨dk_m3 93 rfl rfl, dk_m2 232 rfl rfl, dk_m2 233 rfl rfl, dk_m1 4 rfl rfl, dk_m2 234 rfl rfl, by decide, by decide, by decide +kernel⟩
theorem dw_L_98 : dk_WV "DuckWalkLaw" 98 yX8_on cX8_on 2 (some .int) 1 := ⟨dk_m3 94 rfl rfl, dk_m3 95 rfl rfl, dk_m3 96 rfl rfl, dk_m1 1 rfl rfl, dk_m3 97 rfl rfl, by decide, by decide, by decide +kernel⟩
theorem dw_L_102 : dk_WV "DuckWalkLaw" 102 yX8_turns cX8_turns 2 (some .int) 0 := ⟨dk_m3 98 rfl rfl, dk_m3 99 rfl rfl, dk_m3 100 rfl rfl, dk_m1 1 rfl rfl, dk_m3 101 rfl rfl, by decide, by decide, by decide +kernel⟩
theorem dw_X8_134 : dk_WS "DuckWalk" 134 yX8_divisor cX8_divisor 6 (some .int) 2 := ⟨dk_m3 102 rfl rfl, dk_m3 103 rfl rfl, dk_m1 1 rfl rfl, dk_m3 104 rfl rfl, by decide, by decide, by decide +kernel⟩
theorem dw_X8_143 : dk_WS "DuckWalk" 143 yJ9_abs_0f7a4 cJ9_abs_0f7a4 1 (some .int) 1 := ⟨dk_m3 105 rfl rfl, dk_m3 106 rfl rfl, dk_m1 14 rfl rfl, dk_m3 107 rfl rfl, by decide, by decide, by decide +kernel⟩
theorem dw_X8_138 : dk_WS "DuckWalk" 138 yJ9_max_7cf53 cJ9_max_7cf53 2 (some .int) 2 := ⟨dk_m3 108 rfl rfl, dk_m3 59 rfl rfl, dk_m1 14 rfl rfl, dk_m3 60 rfl rfl, by decide, by decide, by decide +kernel⟩
theorem dw_X8_260 : dk_WS "DuckWalk" 260 yJ9_floorMod_7cf53 cJ9_floorMod_7cf53 3 (some .int) 2 := ⟨dk_m3 109 rfl rfl, dk_m3 110 rfl rfl, dk_m1 14 rfl rfl, dk_m3 111 rfl rfl, by decide, by decide, by decide +kernel⟩
theorem dw_L_107 : dk_WV "DuckWalkLaw" 107 yX8_going cX8_going 5 (some .int) 4 := ⟨dk_m3 112 rfl rfl, dk_m3 113 rfl rfl, dk_m3 114 rfl rfl, dk_m1 1 rfl rfl, dk_m3 115 rfl rfl, by decide, by decide, by decide +kernel⟩
theorem dw_X8_263 : dk_WV "DuckWalk" 263 yX8_isReady cX8_isReady 3 (some .boolean) 2 := ⟨dk_m3 116 rfl rfl, dk_m3 118 rfl rfl, dk_mp 6 rfl rfl, dk_m1 1 rfl rfl, dk_m3 119 rfl rfl, by decide, by decide, by decide +kernel⟩
theorem dw_X8_128 : dk_WV "DuckWalk" 128 yX3_clear cX3_clear 1 none 0 := ⟨dk_m3 120 rfl rfl, dk_m2 158 rfl rfl, dk_m2 159 rfl rfl, dk_m1 4 rfl rfl, dk_m2 160 rfl rfl, by decide, by decide, by decide +kernel⟩
theorem dw_X8_266 : dk_WV "DuckWalk" 266 yX7_find cX7_find 5 none 2 := ⟨dk_m3 121 rfl rfl, dk_m3 122 rfl rfl, dk_m3 123 rfl rfl, dk_m1 6 rfl rfl, dk_m3 124 rfl rfl, by decide, by decide, by decide +kernel⟩
theorem dw_X7_43 : dk_WV "DuckWalk$Trial" 43 yX0_begin cX0_begin 4 none 3 := ⟨dk_m3 125 rfl rfl, dk_m3 35 rfl rfl, dk_m3 36 rfl rfl, dk_m1 2 rfl rfl, dk_m3 37 rfl rfl, by decide, by decide, by decide +kernel⟩
theorem dw_X7_49 : dk_WV "DuckWalk$Trial" 49 yX0_stride cX0_stride 3 (some .boolean) 0 := ⟨dk_m3 127 rfl rfl, dk_m3 51 rfl rfl, dk_m3 52 rfl rfl, dk_m1 2 rfl rfl, dk_m3 53 rfl rfl, by decide, by decide, by decide +kernel⟩
theorem dw_X7_62 : dk_WN "DuckWalk$Trial" 62 yX8_isOutside cX8_isOutside 3 (some .boolean) 3 := ⟨⟨_, List.mem_of_getElem? (i := 3) rfl⟩, dk_m2 67 rfl rfl, dk_m1 1 rfl rfl, dk_m2 68 rfl rfl, by decide, by decide, by decide +kernel⟩
theorem dw_X7_66 : dk_WV "DuckWalk$Trial" 66 yX7_closeTrip cX7_closeTrip 4 none 2 := ⟨dk_m3 129 rfl rfl, dk_m3 131 rfl rfl, dk_mp 7 rfl rfl, dk_m1 6 rfl rfl, dk_m3 132 rfl rfl, by decide, by decide, by decide +kernel⟩
theorem dw_X7_70 : dk_WS "DuckWalk$Trial" 70 yJ9_min_7cf53 cJ9_min_7cf53 2 (some .int) 2 := ⟨dk_m3 133 rfl rfl, dk_m3 134 rfl rfl, dk_m1 14 rfl rfl, dk_m3 135 rfl rfl, by decide, by decide, by decide +kernel⟩
theorem dw_X7_76 : dk_WS "DuckWalk$Trial" 76 yJ9_max_7cf53 cJ9_max_7cf53 2 (some .int) 2 := ⟨dk_m3 136 rfl rfl, dk_m3 59 rfl rfl, dk_m1 14 rfl rfl, dk_m3 60 rfl rfl, by decide, by decide, by decide +kernel⟩
theorem dw_X7_83 : dk_WV "DuckWalk$Trial" 83 yX1_limit cX1_limit 1 (some .int) 0 := ⟨dk_m3 137 rfl rfl, dk_m3 64 rfl rfl, dk_m3 65 rfl rfl, dk_m1 3 rfl rfl, dk_m3 66 rfl rfl, by decide, by decide, by decide +kernel⟩
theorem dw_L_112 : dk_WV "DuckWalkLaw" 112 yX8_mark cX8_mark 6 (some .int) 5 := ⟨dk_m3 138 rfl rfl, dk_m3 139 rfl rfl, dk_m3 140 rfl rfl, dk_m1 1 rfl rfl, dk_m3 141 rfl rfl, by decide, by decide, by decide +kernel⟩
theorem dw_X8_276 : dk_WV "DuckWalk" 276 yX7_isOf cX7_isOf 2 (some .boolean) 1 := ⟨dk_m3 142 rfl rfl, dk_m3 143 rfl rfl, dk_m3 144 rfl rfl, dk_m1 6 rfl rfl, dk_m3 145 rfl rfl, by decide, by decide, by decide +kernel⟩
theorem dw_X8_279 : dk_WV "DuckWalk" 279 yX7_unlikePaces cX7_unlikePaces 8 (some .int) 2 := ⟨dk_m3 146 rfl rfl, dk_m3 147 rfl rfl, dk_m3 148 rfl rfl, dk_m1 6 rfl rfl, dk_m3 149 rfl rfl, by decide, by decide, by decide +kernel⟩
theorem dw_X7_99 : dk_WS "DuckWalk$Trial" 99 yJ13_bitCount_95d88 cJ13_bitCount_95d88 2 (some .int) 1 := ⟨dk_m3 150 rfl rfl, dk_m3 151 rfl rfl, dk_m1 15 rfl rfl, dk_m3 152 rfl rfl, by decide, by decide, by decide +kernel⟩
theorem dw_X8_282 : dk_WV "DuckWalk" 282 yX7_tells cX7_tells 2 (some .int) 1 := ⟨dk_m3 156 rfl rfl, dk_m3 157 rfl rfl, dk_m3 158 rfl rfl, dk_m1 6 rfl rfl, dk_m3 159 rfl rfl, by decide, by decide, by decide +kernel⟩
theorem dw_L_116 : dk_WV "DuckWalkLaw" 116 yX8_lines cX8_lines 8 (some .int) 4 := ⟨dk_m3 160 rfl rfl, dk_m3 161 rfl rfl, dk_m3 162 rfl rfl, dk_m1 1 rfl rfl, dk_m3 163 rfl rfl, by decide, by decide, by decide +kernel⟩
theorem dw_L_120 : dk_WV "DuckWalkLaw" 120 yX8_begins cX8_begins 7 (some .int) 3 := ⟨dk_m3 164 rfl rfl, dk_m3 165 rfl rfl, dk_m3 166 rfl rfl, dk_m1 1 rfl rfl, dk_m3 167 rfl rfl, by decide, by decide, by decide +kernel⟩
theorem dw_X8_285 : dk_WV "DuckWalk" 285 yX7_walksWell cX7_walksWell 3 (some .boolean) 2 := ⟨dk_m3 168 rfl rfl, dk_m3 169 rfl rfl, dk_m3 170 rfl rfl, dk_m1 6 rfl rfl, dk_m3 171 rfl rfl, by decide, by decide, by decide +kernel⟩
theorem dw_X7_89 : dk_WV "DuckWalk$Trial" 89 yX7_find cX7_find 5 none 2 := ⟨dk_m3 172 rfl rfl, dk_m3 122 rfl rfl, dk_m3 123 rfl rfl, dk_m1 6 rfl rfl, dk_m3 124 rfl rfl, by decide, by decide, by decide +kernel⟩
theorem dw_X7_92 : dk_WV "DuckWalk$Trial" 92 yX7_isOf cX7_isOf 2 (some .boolean) 1 := ⟨dk_m3 173 rfl rfl, dk_m3 143 rfl rfl, dk_m3 144 rfl rfl, dk_m1 6 rfl rfl, dk_m3 145 rfl rfl, by decide, by decide, by decide +kernel⟩
theorem dw_L_124 : dk_WV "DuckWalkLaw" 124 yX8_mends cX8_mends 9 (some .int) 5 := ⟨dk_m3 174 rfl rfl, dk_m3 175 rfl rfl, dk_m3 176 rfl rfl, dk_m1 1 rfl rfl, dk_m3 177 rfl rfl, by decide, by decide, by decide +kernel⟩
theorem dw_L_128 : dk_WV "DuckWalkLaw" 128 yX8_wide cX8_wide 9 (some .int) 3 := ⟨dk_m3 178 rfl rfl, dk_m3 179 rfl rfl, dk_m3 180 rfl rfl, dk_m1 1 rfl rfl, dk_m3 181 rfl rfl, by decide, by decide, by decide +kernel⟩
theorem dw_X8_291 : dk_WV "DuckWalk" 291 yX7_span cX7_span 4 (some .int) 1 := ⟨dk_m3 182 rfl rfl, dk_m3 183 rfl rfl, dk_m3 184 rfl rfl, dk_m1 6 rfl rfl, dk_m3 185 rfl rfl, by decide, by decide, by decide +kernel⟩
theorem dw_X7_105 : dk_WV "DuckWalk$Trial" 105 yX7_walksWell cX7_walksWell 3 (some .boolean) 2 := ⟨dk_m3 186 rfl rfl, dk_m3 169 rfl rfl, dk_m3 170 rfl rfl, dk_m1 6 rfl rfl, dk_m3 171 rfl rfl, by decide, by decide, by decide +kernel⟩
theorem dw_L_132 : dk_WV "DuckWalkLaw" 132 yX8_mend cX8_mend 7 (some .int) 4 := ⟨dk_m3 187 rfl rfl, dk_m3 188 rfl rfl, dk_m3 189 rfl rfl, dk_m1 1 rfl rfl, dk_m3 190 rfl rfl, by decide, by decide, by decide +kernel⟩
theorem dw_X8_294 : dk_WS "DuckWalk" 294 yJ9_min_7cf53 cJ9_min_7cf53 2 (some .int) 2 := ⟨dk_m3 191 rfl rfl, dk_m3 134 rfl rfl, dk_m1 14 rfl rfl, dk_m3 135 rfl rfl, by decide, by decide, by decide +kernel⟩
theorem dw_L_136 : dk_WV "DuckWalkLaw" 136 yX8_limp cX8_limp 5 (some .int) 3 := ⟨dk_m3 192 rfl rfl, dk_m3 193 rfl rfl, dk_m3 194 rfl rfl, dk_m1 1 rfl rfl, dk_m3 195 rfl rfl, by decide, by decide, by decide +kernel⟩
theorem dw_X8_297 : dk_WV "DuckWalk" 297 yX8_refusalOfTocks cX8_refusalOfTocks 5 (some .int) 3 := ⟨dk_m3 196 rfl rfl, dk_m3 198 rfl rfl, dk_mp 8 rfl rfl, dk_m1 1 rfl rfl, dk_m3 199 rfl rfl, by decide, by decide, by decide +kernel⟩
theorem dw_X8_301 : dk_WV "DuckWalk" 301 yX2_search cX2_search 5 none 2 := ⟨dk_m3 200 rfl rfl, dk_m3 201 rfl rfl, dk_m3 202 rfl rfl, dk_m1 7 rfl rfl, dk_m3 203 rfl rfl, by decide, by decide, by decide +kernel⟩
theorem dw_X2_39 : dk_WV "DuckWalk$Guess" 39 yX2_offOf cX2_offOf 7 (some .int) 3 := ⟨dk_m3 205 rfl rfl, dk_m3 207 rfl rfl, dk_mp 9 rfl rfl, dk_m1 7 rfl rfl, dk_m3 208 rfl rfl, by decide, by decide, by decide +kernel⟩
theorem dw_X2_52 : dk_WV "DuckWalk$Guess" 52 yX0_begin cX0_begin 4 none 3 := ⟨dk_m3 209 rfl rfl, dk_m3 35 rfl rfl, dk_m3 36 rfl rfl, dk_m1 2 rfl rfl, dk_m3 37 rfl rfl, by decide, by decide, by decide +kernel⟩
theorem dw_X2_58 : dk_WV "DuckWalk$Guess" 58 yX0_stride cX0_stride 3 (some .boolean) 0 := ⟨dk_m3 210 rfl rfl, dk_m3 51 rfl rfl, dk_m3 52 rfl rfl, dk_m1 2 rfl rfl, dk_m3 53 rfl rfl, by decide, by decide, by decide +kernel⟩
theorem dw_X2_68 : dk_WS "DuckWalk$Guess" 68 yJ9_abs_0f7a4 cJ9_abs_0f7a4 1 (some .int) 1 := ⟨dk_m3 211 rfl rfl, dk_m3 106 rfl rfl, dk_m1 14 rfl rfl, dk_m3 107 rfl rfl, by decide, by decide, by decide +kernel⟩
theorem dw_X2_43 : dk_WV "DuckWalk$Guess" 43 yX2_weigh cX2_weigh 4 none 3 := ⟨dk_m3 212 rfl rfl, dk_m3 214 rfl rfl, dk_mp 10 rfl rfl, dk_m1 7 rfl rfl, dk_m3 215 rfl rfl, by decide, by decide, by decide +kernel⟩
theorem dw_L_140 : dk_WV "DuckWalkLaw" 140 yX8_odds cX8_odds 5 (some .int) 3 := ⟨dk_m3 216 rfl rfl, dk_m3 217 rfl rfl, dk_m3 218 rfl rfl, dk_m1 1 rfl rfl, dk_m3 219 rfl rfl, by decide, by decide, by decide +kernel⟩
theorem dw_X8_315 : dk_WV "DuckWalk" 315 yX8_tellFraction cX8_tellFraction 4 none 2 := ⟨dk_m3 220 rfl rfl, dk_m3 222 rfl rfl, dk_mp 11 rfl rfl, dk_m1 1 rfl rfl, dk_m3 223 rfl rfl, by decide, by decide, by decide +kernel⟩
theorem dw_L_144 : dk_WV "DuckWalkLaw" 144 yX8_part cX8_part 7 (some .int) 4 := ⟨dk_m3 224 rfl rfl, dk_m3 225 rfl rfl, dk_m3 226 rfl rfl, dk_m1 1 rfl rfl, dk_m3 227 rfl rfl, by decide, by decide, by decide +kernel⟩
theorem dw_L_148 : dk_WV "DuckWalkLaw" 148 yX8_made cX8_made 12 (some .int) 4 := ⟨dk_m3 228 rfl rfl, dk_m3 229 rfl rfl, dk_m3 230 rfl rfl, dk_m1 1 rfl rfl, dk_m3 231 rfl rfl, by decide, by decide, by decide +kernel⟩
theorem dw_X8_318 : dk_WV "DuckWalk" 318 yX1_shape cX1_shape 4 none 3 := ⟨dk_m3 232 rfl rfl, dk_m3 233 rfl rfl, dk_m3 234 rfl rfl, dk_m1 3 rfl rfl, dk_m3 235 rfl rfl, by decide, by decide, by decide +kernel⟩
theorem dw_L_152 : dk_WV "DuckWalkLaw" 152 yX8_would cX8_would 9 (some .int) 4 := ⟨dk_m3 236 rfl rfl, dk_m3 237 rfl rfl, dk_m3 238 rfl rfl, dk_m1 1 rfl rfl, dk_m3 239 rfl rfl, by decide, by decide, by decide +kernel⟩
theorem dw_X8_321 : dk_WV "DuckWalk" 321 yX1_ways cX1_ways 3 (some .int) 0 := ⟨dk_m4 0 rfl rfl, dk_m4 1 rfl rfl, dk_m4 2 rfl rfl, dk_m1 3 rfl rfl, dk_m4 3 rfl rfl, by decide, by decide, by decide +kernel⟩
theorem dw_X1_35 : dk_WV "DuckWalk$Duck" 35 yX1_isUntold cX1_isUntold 2 (some .boolean) 1 := ⟨dk_m4 4 rfl rfl, dk_m4 5 rfl rfl, dk_m4 6 rfl rfl, dk_m1 3 rfl rfl, dk_m4 7 rfl rfl, by decide, by decide, by decide +kernel⟩
theorem dw_X8_325 : dk_WV "DuckWalk" 325 yX1_tellUntold cX1_tellUntold 4 none 1 := ⟨dk_m4 8 rfl rfl, dk_m4 9 rfl rfl, dk_m4 10 rfl rfl, dk_m1 3 rfl rfl, dk_m4 11 rfl rfl, by decide, by decide, by decide +kernel⟩
theorem dw_X8_328 : dk_WV "DuckWalk" 328 yX1_asNumber cX1_asNumber 1 (some .int) 0 := ⟨dk_m4 12 rfl rfl, dk_m4 13 rfl rfl, dk_m4 14 rfl rfl, dk_m1 3 rfl rfl, dk_m4 15 rfl rfl, by decide, by decide, by decide +kernel⟩
theorem dw_L_156 : dk_WV "DuckWalkLaw" 156 yX8_yard cX8_yard 8 (some .int) 5 := ⟨dk_m4 16 rfl rfl, dk_m4 17 rfl rfl, dk_m4 18 rfl rfl, dk_m1 1 rfl rfl, dk_m4 19 rfl rfl, by decide, by decide, by decide +kernel⟩
theorem dw_L_160 : dk_WV "DuckWalkLaw" 160 yX8_push cX8_push 5 (some .int) 3 := ⟨dk_m4 20 rfl rfl, dk_m4 21 rfl rfl, dk_m4 22 rfl rfl, dk_m1 1 rfl rfl, dk_m4 23 rfl rfl, by decide, by decide, by decide +kernel⟩
theorem dw_X8_337 : dk_WV "DuckWalk" 337 yX8_leastPush cX8_leastPush 7 (some .int) 3 := ⟨dk_m4 24 rfl rfl, dk_m4 26 rfl rfl, dk_mp 12 rfl rfl, dk_m1 1 rfl rfl, dk_m4 27 rfl rfl, by decide, by decide, by decide +kernel⟩
theorem dw_L_164 : dk_WV "DuckWalkLaw" 164 yX8_bears cX8_bears 7 (some .int) 5 := ⟨dk_m4 28 rfl rfl, dk_m4 29 rfl rfl, dk_m4 30 rfl rfl, dk_m1 1 rfl rfl, dk_m4 31 rfl rfl, by decide, by decide, by decide +kernel⟩
theorem dw_X8_341 : dk_WV "DuckWalk" 341 yX8_bearsBump cX8_bearsBump 6 (some .boolean) 4 := ⟨dk_m4 32 rfl rfl, dk_m4 34 rfl rfl, dk_mp 13 rfl rfl, dk_m1 1 rfl rfl, dk_m4 35 rfl rfl, by decide, by decide, by decide +kernel⟩
theorem dw_L_168 : dk_WV "DuckWalkLaw" 168 yX8_meets cX8_meets 7 (some .int) 5 := ⟨dk_m4 36 rfl rfl, dk_m4 37 rfl rfl, dk_m4 38 rfl rfl, dk_m1 1 rfl rfl, dk_m4 39 rfl rfl, by decide, by decide, by decide +kernel⟩
theorem dw_L_172 : dk_WV "DuckWalkLaw" 172 yX8_asked cX8_asked 1 (some .int) 0 := ⟨dk_m4 40 rfl rfl, dk_m4 41 rfl rfl, dk_m4 42 rfl rfl, dk_m1 1 rfl rfl, dk_m4 43 rfl rfl, by decide, by decide, by decide +kernel⟩
theorem dw_L_176 : dk_WV "DuckWalkLaw" 176 yX8_upper cX8_upper 1 (some .long) 0 := ⟨dk_m4 44 rfl rfl, dk_m4 45 rfl rfl, dk_m4 46 rfl rfl, dk_m1 1 rfl rfl, dk_m4 47 rfl rfl, by decide, by decide, by decide +kernel⟩
theorem dw_L_181 : dk_WV "DuckWalkLaw" 181 yX8_lower cX8_lower 1 (some .long) 0 := ⟨dk_m4 48 rfl rfl, dk_m4 49 rfl rfl, dk_m4 50 rfl rfl, dk_m1 1 rfl rfl, dk_m4 51 rfl rfl, by decide, by decide, by decide +kernel⟩
theorem dw_L_185 : dk_WV "DuckWalkLaw" 185 yX8_count cX8_count 2 (some .int) 1 := ⟨dk_m4 52 rfl rfl, dk_m4 53 rfl rfl, dk_m4 54 rfl rfl, dk_m1 1 rfl rfl, dk_m4 55 rfl rfl, by decide, by decide, by decide +kernel⟩
theorem dw_X8_349 : dk_WV "DuckWalk" 349 yX8_countOf cX8_countOf 2 (some .int) 1 := ⟨dk_m4 56 rfl rfl, dk_m4 58 rfl rfl, dk_mp 14 rfl rfl, dk_m1 1 rfl rfl, dk_m4 59 rfl rfl, by decide, by decide, by decide +kernel⟩
theorem dw_X8_352 : dk_WV "DuckWalk" 352 yX8_countDucks cX8_countDucks 4 (some .int) 1 := ⟨dk_m4 60 rfl rfl, dk_m4 62 rfl rfl, dk_mp 15 rfl rfl, dk_m1 1 rfl rfl, dk_m4 63 rfl rfl, by decide, by decide, by decide +kernel⟩
theorem dw_X8_356 : dk_WV "DuckWalk" 356 yX8_countPlanks cX8_countPlanks 3 (some .int) 0 := ⟨dk_m4 64 rfl rfl, dk_m4 66 rfl rfl, dk_mp 16 rfl rfl, dk_m1 1 rfl rfl, dk_m4 67 rfl rfl, by decide, by decide, by decide +kernel⟩
theorem dw_X8_359 : dk_WV "DuckWalk" 359 yX8_countKept cX8_countKept 3 (some .int) 0 := ⟨dk_m4 68 rfl rfl, dk_m4 70 rfl rfl, dk_mp 17 rfl rfl, dk_m1 1 rfl rfl, dk_m4 71 rfl rfl, by decide, by decide, by decide +kernel⟩
theorem dw_X8_362 : dk_WV "DuckWalk" 362 yX8_countRows cX8_countRows 3 (some .int) 0 := ⟨dk_m4 72 rfl rfl, dk_m4 74 rfl rfl, dk_mp 18 rfl rfl, dk_m1 1 rfl rfl, dk_m4 75 rfl rfl, by decide, by decide, by decide +kernel⟩
theorem dw_X8_365 : dk_WV "DuckWalk" 365 yX8_countScripts cX8_countScripts 3 (some .int) 0 := ⟨dk_m4 76 rfl rfl, dk_m4 78 rfl rfl, dk_mp 19 rfl rfl, dk_m1 1 rfl rfl, dk_m4 79 rfl rfl, by decide, by decide, by decide +kernel⟩
theorem dw_L_189 : dk_WV "DuckWalkLaw" 189 yX8_finding cX8_finding 1 (some .int) 0 := ⟨dk_m4 80 rfl rfl, dk_m4 81 rfl rfl, dk_m4 82 rfl rfl, dk_m1 1 rfl rfl, dk_m4 83 rfl rfl, by decide, by decide, by decide +kernel⟩
theorem dw_L_193 : dk_WV "DuckWalkLaw" 193 yX8_findings cX8_findings 2 (some .int) 1 := ⟨dk_m4 84 rfl rfl, dk_m4 85 rfl rfl, dk_m4 86 rfl rfl, dk_m1 1 rfl rfl, dk_m4 87 rfl rfl, by decide, by decide, by decide +kernel⟩
theorem dw_L_197 : dk_WV "DuckWalkLaw" 197 yX8_digest cX8_digest 4 (some .long) 0 := ⟨dk_m4 88 rfl rfl, dk_m4 89 rfl rfl, dk_m4 90 rfl rfl, dk_m1 1 rfl rfl, dk_m4 91 rfl rfl, by decide, by decide, by decide +kernel⟩
theorem dw_X8_372 : dk_WV "DuckWalk" 372 yX1_digestOn cX1_digestOn 6 (some .long) 1 := ⟨dk_m4 94 rfl rfl, dk_m4 95 rfl rfl, dk_m4 96 rfl rfl, dk_m1 3 rfl rfl, dk_m4 97 rfl rfl, by decide, by decide, by decide +kernel⟩
theorem dw_X1_51 : dk_WV "DuckWalk$Duck" 51 yX1_value cX1_value 2 (some .int) 1 := ⟨dk_m4 99 rfl rfl, dk_m3 1 rfl rfl, dk_m3 2 rfl rfl, dk_m1 3 rfl rfl, dk_m3 3 rfl rfl, by decide, by decide, by decide +kernel⟩
theorem dw_X8_376 : dk_WV "DuckWalk" 376 yX3_digestOn cX3_digestOn 6 (some .long) 1 := ⟨dk_m4 100 rfl rfl, dk_m4 101 rfl rfl, dk_m4 102 rfl rfl, dk_m1 4 rfl rfl, dk_m4 103 rfl rfl, by decide, by decide, by decide +kernel⟩
theorem dw_X8_377 : dk_WV "DuckWalk" 377 yX0_digestOn cX0_digestOn 6 (some .long) 1 := ⟨dk_m4 105 rfl rfl, dk_m4 106 rfl rfl, dk_m4 107 rfl rfl, dk_m1 2 rfl rfl, dk_m4 108 rfl rfl, by decide, by decide, by decide +kernel⟩
theorem dw_X0_86 : dk_WV "DuckWalk$Course" 86 yX0_value cX0_value 2 (some .int) 1 := ⟨dk_m4 110 rfl rfl, dk_m3 72 rfl rfl, dk_m3 73 rfl rfl, dk_m1 2 rfl rfl, dk_m3 74 rfl rfl, by decide, by decide, by decide +kernel⟩
theorem dw_X8_378 : dk_WV "DuckWalk" 378 yX5_digestOn cX5_digestOn 6 (some .long) 1 := ⟨dk_m4 111 rfl rfl, dk_m4 112 rfl rfl, dk_m4 113 rfl rfl, dk_m1 8 rfl rfl, dk_m4 114 rfl rfl, by decide, by decide, by decide +kernel⟩
theorem dw_X8_379 : dk_WV "DuckWalk" 379 yX6_digestOn cX6_digestOn 6 (some .long) 1 := ⟨dk_m4 116 rfl rfl, dk_m4 117 rfl rfl, dk_m4 118 rfl rfl, dk_m1 9 rfl rfl, dk_m4 119 rfl rfl, by decide, by decide, by decide +kernel⟩
theorem dw_L_192 : dk_WV "DuckWalkLaw" 192 yX9_finding cX9_finding 1 (some .int) 0 := ⟨dk_m5 12 rfl rfl, dk_m5 13 rfl rfl, dk_m5 14 rfl rfl, dk_m1 10 rfl rfl, dk_m5 15 rfl rfl, by decide, by decide, by decide +kernel⟩
theorem dw_L_196 : dk_WV "DuckWalkLaw" 196 yX9_findings cX9_findings 2 (some .int) 1 := ⟨dk_m5 16 rfl rfl, dk_m5 17 rfl rfl, dk_m5 18 rfl rfl, dk_m1 10 rfl rfl, dk_m5 19 rfl rfl, by decide, by decide, by decide +kernel⟩
theorem dw_X9_80 : dk_WS "DuckWalkModel" 80 yX9_in cX9_in 3 (some .boolean) 3 := ⟨dk_m5 20 rfl rfl, dk_m5 21 rfl rfl, dk_m1 10 rfl rfl, dk_m5 22 rfl rfl, by decide, by decide, by decide +kernel⟩
theorem dw_L_175 : dk_WV "DuckWalkLaw" 175 yX9_asked cX9_asked 1 (some .int) 0 := ⟨dk_m5 23 rfl rfl, dk_m5 24 rfl rfl, dk_m5 25 rfl rfl, dk_m1 10 rfl rfl, dk_m5 26 rfl rfl, by decide, by decide, by decide +kernel⟩
theorem dw_L_180 : dk_WV "DuckWalkLaw" 180 yX9_upper cX9_upper 1 (some .long) 0 := ⟨dk_m5 27 rfl rfl, dk_m5 28 rfl rfl, dk_m5 29 rfl rfl, dk_m1 10 rfl rfl, dk_m5 30 rfl rfl, by decide, by decide, by decide +kernel⟩
theorem dw_L_184 : dk_WV "DuckWalkLaw" 184 yX9_lower cX9_lower 1 (some .long) 0 := ⟨dk_m5 31 rfl rfl, dk_m5 32 rfl rfl, dk_m5 33 rfl rfl, dk_m1 10 rfl rfl, dk_m5 34 rfl rfl, by decide, by decide, by decide +kernel⟩
theorem dw_L_17 : dk_WV "DuckWalkLaw" 17 yX9_row cX9_row 4 (some .int) 2 := ⟨dk_m5 35 rfl rfl, dk_m5 36 rfl rfl, dk_m5 37 rfl rfl, dk_m1 10 rfl rfl, dk_m5 38 rfl rfl, by decide, by decide, by decide +kernel⟩
theorem dw_X9_90 : dk_WS "DuckWalkModel" 90 yX9_isRow cX9_isRow 1 (some .boolean) 1 := ⟨dk_m5 39 rfl rfl, dk_m5 40 rfl rfl, dk_m1 10 rfl rfl, dk_m5 41 rfl rfl, by decide, by decide, by decide +kernel⟩
theorem dw_X9_94 : dk_WV "DuckWalkModel" 94 yX9_notes cX9_notes 2 (some .int) 1 := ⟨dk_m5 42 rfl rfl, dk_m5 44 rfl rfl, dk_mp 20 rfl rfl, dk_m1 10 rfl rfl, dk_m5 45 rfl rfl, by decide, by decide, by decide +kernel⟩
theorem dw_L_22 : dk_WV "DuckWalkLaw" 22 yX9_lay cX9_lay 5 (some .int) 3 := ⟨dk_m5 46 rfl rfl, dk_m5 47 rfl rfl, dk_m5 48 rfl rfl, dk_m1 10 rfl rfl, dk_m5 49 rfl rfl, by decide, by decide, by decide +kernel⟩
theorem dw_X9_98 : dk_WV "DuckWalkModel" 98 yX9_rowAt cX9_rowAt 3 (some .int) 2 := ⟨dk_m5 50 rfl rfl, dk_m5 52 rfl rfl, dk_mp 21 rfl rfl, dk_m1 10 rfl rfl, dk_m5 53 rfl rfl, by decide, by decide, by decide +kernel⟩
theorem dw_X9_102 : dk_WV "DuckWalkModel" 102 yX9_tells cX9_tells 3 (some .int) 2 := ⟨dk_m5 54 rfl rfl, dk_m5 56 rfl rfl, dk_mp 22 rfl rfl, dk_m1 10 rfl rfl, dk_m5 57 rfl rfl, by decide, by decide, by decide +kernel⟩
theorem dw_L_26 : dk_WV "DuckWalkLaw" 26 yX9_at cX9_at 3 (some .int) 2 := ⟨dk_m5 58 rfl rfl, dk_m5 59 rfl rfl, dk_m5 60 rfl rfl, dk_m1 10 rfl rfl, dk_m5 61 rfl rfl, by decide, by decide, by decide +kernel⟩
theorem dw_L_31 : dk_WV "DuckWalkLaw" 31 yX9_tear cX9_tear 2 (some .int) 1 := ⟨dk_m5 62 rfl rfl, dk_m5 63 rfl rfl, dk_m5 64 rfl rfl, dk_m1 10 rfl rfl, dk_m5 65 rfl rfl, by decide, by decide, by decide +kernel⟩
theorem dw_L_36 : dk_WV "DuckWalkLaw" 36 yX9_copy cX9_copy 7 (some .int) 5 := ⟨dk_m5 66 rfl rfl, dk_m5 67 rfl rfl, dk_m5 68 rfl rfl, dk_m1 10 rfl rfl, dk_m5 69 rfl rfl, by decide, by decide, by decide +kernel⟩
theorem dw_L_40 : dk_WV "DuckWalkLaw" 40 yX9_mean cX9_mean 5 (some .int) 1 := ⟨dk_m5 70 rfl rfl, dk_m5 71 rfl rfl, dk_m5 72 rfl rfl, dk_m1 10 rfl rfl, dk_m5 73 rfl rfl, by decide, by decide, by decide +kernel⟩
theorem dw_L_44 : dk_WV "DuckWalkLaw" 44 yX9_text cX9_text 4 (some .int) 2 := ⟨dk_m5 74 rfl rfl, dk_m5 75 rfl rfl, dk_m5 76 rfl rfl, dk_m1 10 rfl rfl, dk_m5 77 rfl rfl, by decide, by decide, by decide +kernel⟩
theorem dw_X9_105 : dk_WS "DuckWalkModel" 105 yX9_isText cX9_isText 1 (some .boolean) 1 := ⟨dk_m5 78 rfl rfl, dk_m5 79 rfl rfl, dk_m1 10 rfl rfl, dk_m5 80 rfl rfl, by decide, by decide, by decide +kernel⟩
theorem dw_L_48 : dk_WV "DuckWalkLaw" 48 yX9_put cX9_put 5 (some .int) 3 := ⟨dk_m5 81 rfl rfl, dk_m5 82 rfl rfl, dk_m5 83 rfl rfl, dk_m1 10 rfl rfl, dk_m5 84 rfl rfl, by decide, by decide, by decide +kernel⟩
theorem dw_L_53 : dk_WV "DuckWalkLaw" 53 yX9_fault cX9_fault 3 (some .int) 2 := ⟨dk_m5 85 rfl rfl, dk_m5 86 rfl rfl, dk_m5 87 rfl rfl, dk_m1 10 rfl rfl, dk_m5 88 rfl rfl, by decide, by decide, by decide +kernel⟩
theorem dw_X9_133 : dk_WV "DuckWalkModel" 133 yX9_boardFault cX9_boardFault 3 (some .int) 1 := ⟨dk_m5 89 rfl rfl, dk_m5 91 rfl rfl, dk_mp 23 rfl rfl, dk_m1 10 rfl rfl, dk_m5 92 rfl rfl, by decide, by decide, by decide +kernel⟩
theorem dw_X9_111 : dk_WV "DuckWalkModel" 111 yX9_byteAt cX9_byteAt 3 (some .int) 2 := ⟨dk_m5 93 rfl rfl, dk_m5 95 rfl rfl, dk_mp 24 rfl rfl, dk_m1 10 rfl rfl, dk_m5 96 rfl rfl, by decide, by decide, by decide +kernel⟩
theorem dw_X9_130 : dk_WV "DuckWalkModel" 130 yX9_readsBoard cX9_readsBoard 4 (some .boolean) 1 := ⟨dk_m5 97 rfl rfl, dk_m5 99 rfl rfl, dk_mp 25 rfl rfl, dk_m1 10 rfl rfl, dk_m5 100 rfl rfl, by decide, by decide, by decide +kernel⟩
theorem dw_X9_120 : dk_WV "DuckWalkModel" 120 yX9_figure cX9_figure 4 (some .boolean) 2 := ⟨dk_m5 101 rfl rfl, dk_m5 103 rfl rfl, dk_mp 26 rfl rfl, dk_m1 10 rfl rfl, dk_m5 104 rfl rfl, by decide, by decide, by decide +kernel⟩
theorem dw_X9_136 : dk_WV "DuckWalkModel" 136 yX9_walkerFault cX9_walkerFault 3 (some .int) 1 := ⟨dk_m5 105 rfl rfl, dk_m5 107 rfl rfl, dk_mp 27 rfl rfl, dk_m1 10 rfl rfl, dk_m5 108 rfl rfl, by decide, by decide, by decide +kernel⟩
theorem dw_X9_124 : dk_WV "DuckWalkModel" 124 yX9_readsSize cX9_readsSize 3 (some .boolean) 1 := ⟨dk_m5 109 rfl rfl, dk_m5 111 rfl rfl, dk_mp 28 rfl rfl, dk_m1 10 rfl rfl, dk_m5 112 rfl rfl, by decide, by decide, by decide +kernel⟩
theorem dw_X9_117 : dk_WS "DuckWalkModel" 117 yX9_itemOf cX9_itemOf 1 (some .int) 1 := ⟨dk_m5 113 rfl rfl, dk_m5 114 rfl rfl, dk_m1 10 rfl rfl, dk_m5 115 rfl rfl, by decide, by decide, by decide +kernel⟩
theorem dw_L_57 : dk_WV "DuckWalkLaw" 57 yX9_walker cX9_walker 4 (some .int) 2 := ⟨dk_m5 116 rfl rfl, dk_m5 117 rfl rfl, dk_m5 118 rfl rfl, dk_m1 10 rfl rfl, dk_m5 119 rfl rfl, by decide, by decide, by decide +kernel⟩
theorem dw_X9_139 : dk_WS "DuckWalkModel" 139 yX9_isPlace cX9_isPlace 1 (some .boolean) 1 := ⟨dk_m5 120 rfl rfl, dk_m5 121 rfl rfl, dk_m1 10 rfl rfl, dk_m5 122 rfl rfl, by decide, by decide, by decide +kernel⟩
theorem dw_X9_142 : dk_WS "DuckWalkModel" 142 yX9_bits cX9_bits 3 (some .int) 1 := ⟨dk_m5 123 rfl rfl, dk_m5 124 rfl rfl, dk_m1 10 rfl rfl, dk_m5 125 rfl rfl, by decide, by decide, by decide +kernel⟩
theorem dw_L_61 : dk_WV "DuckWalkLaw" 61 yX9_board cX9_board 4 (some .int) 2 := ⟨dk_m5 126 rfl rfl, dk_m5 127 rfl rfl, dk_m5 128 rfl rfl, dk_m1 10 rfl rfl, dk_m5 129 rfl rfl, by decide, by decide, by decide +kernel⟩
theorem dw_L_65 : dk_WV "DuckWalkLaw" 65 yX9_about cX9_about 3 (some .int) 2 := ⟨dk_m5 130 rfl rfl, dk_m5 131 rfl rfl, dk_m5 132 rfl rfl, dk_m1 10 rfl rfl, dk_m5 133 rfl rfl, by decide, by decide, by decide +kernel⟩
theorem dw_L_69 : dk_WV "DuckWalkLaw" 69 yX9_rub cX9_rub 3 (some .int) 2 := ⟨dk_m5 134 rfl rfl, dk_m5 135 rfl rfl, dk_m5 136 rfl rfl, dk_m1 10 rfl rfl, dk_m5 137 rfl rfl, by decide, by decide, by decide +kernel⟩
theorem dw_L_73 : dk_WV "DuckWalkLaw" 73 yX9_wax cX9_wax 5 (some .int) 3 := ⟨dk_m5 138 rfl rfl, dk_m5 139 rfl rfl, dk_m5 140 rfl rfl, dk_m1 10 rfl rfl, dk_m5 141 rfl rfl, by decide, by decide, by decide +kernel⟩
theorem dw_L_77 : dk_WV "DuckWalkLaw" 77 yX9_walk cX9_walk 7 (some .int) 5 := ⟨dk_m5 142 rfl rfl, dk_m5 143 rfl rfl, dk_m5 144 rfl rfl, dk_m1 10 rfl rfl, dk_m5 145 rfl rfl, by decide, by decide, by decide +kernel⟩
theorem dw_X9_183 : dk_WV "DuckWalkModel" 183 yX9_starts cX9_starts 3 none 2 := ⟨dk_m5 146 rfl rfl, dk_m5 148 rfl rfl, dk_mp 29 rfl rfl, dk_m1 10 rfl rfl, dk_m5 149 rfl rfl, by decide, by decide, by decide +kernel⟩
theorem dw_X9_187 : dk_WV "DuckWalkModel" 187 yX9_storeWalk cX9_storeWalk 1 none 0 := ⟨dk_m5 150 rfl rfl, dk_m5 152 rfl rfl, dk_mp 30 rfl rfl, dk_m1 10 rfl rfl, dk_m5 153 rfl rfl, by decide, by decide, by decide +kernel⟩
theorem dw_X9_190 : dk_WV "DuckWalkModel" 190 yX9_layWalk cX9_layWalk 2 none 0 := ⟨dk_m5 154 rfl rfl, dk_m5 156 rfl rfl, dk_mp 31 rfl rfl, dk_m1 10 rfl rfl, dk_m5 157 rfl rfl, by decide, by decide, by decide +kernel⟩
theorem dw_X9_169 : dk_WV "DuckWalkModel" 169 yX9_gain cX9_gain 1 (some .int) 0 := ⟨dk_m5 158 rfl rfl, dk_m5 160 rfl rfl, dk_mp 32 rfl rfl, dk_m1 10 rfl rfl, dk_m5 161 rfl rfl, by decide, by decide, by decide +kernel⟩
theorem dw_L_81 : dk_WV "DuckWalkLaw" 81 yX9_go cX9_go 3 (some .int) 1 := ⟨dk_m5 162 rfl rfl, dk_m5 163 rfl rfl, dk_m5 164 rfl rfl, dk_m1 10 rfl rfl, dk_m5 165 rfl rfl, by decide, by decide, by decide +kernel⟩
theorem dw_X9_193 : dk_WV "DuckWalkModel" 193 yX9_walksOn cX9_walksOn 2 (some .boolean) 0 := ⟨dk_m5 166 rfl rfl, dk_m5 168 rfl rfl, dk_mp 33 rfl rfl, dk_m1 10 rfl rfl, dk_m5 169 rfl rfl, by decide, by decide, by decide +kernel⟩
theorem dw_X9_179 : dk_WV "DuckWalkModel" 179 yX9_step cX9_step 4 none 1 := ⟨dk_m5 170 rfl rfl, dk_m5 172 rfl rfl, dk_mp 34 rfl rfl, dk_m1 10 rfl rfl, dk_m5 173 rfl rfl, by decide, by decide, by decide +kernel⟩
theorem dw_X9_173 : dk_WV "DuckWalkModel" 173 yX9_fallsAt cX9_fallsAt 1 (some .int) 0 := ⟨dk_m5 174 rfl rfl, dk_m5 176 rfl rfl, dk_mp 35 rfl rfl, dk_m1 10 rfl rfl, dk_m5 177 rfl rfl, by decide, by decide, by decide +kernel⟩
theorem dw_L_85 : dk_WV "DuckWalkLaw" 85 yX9_told cX9_told 2 (some .int) 1 := ⟨dk_m5 178 rfl rfl, dk_m5 179 rfl rfl, dk_m5 180 rfl rfl, dk_m1 10 rfl rfl, dk_m5 181 rfl rfl, by decide, by decide, by decide +kernel⟩
theorem dw_X9_197 : dk_WV "DuckWalkModel" 197 yX9_walkTells cX9_walkTells 2 (some .int) 1 := ⟨dk_m5 182 rfl rfl, dk_m5 184 rfl rfl, dk_mp 36 rfl rfl, dk_m1 10 rfl rfl, dk_m5 185 rfl rfl, by decide, by decide, by decide +kernel⟩
theorem dw_L_89 : dk_WV "DuckWalkLaw" 89 yX9_tocks cX9_tocks 6 (some .int) 2 := ⟨dk_m5 186 rfl rfl, dk_m5 187 rfl rfl, dk_m5 188 rfl rfl, dk_m1 10 rfl rfl, dk_m5 189 rfl rfl, by decide, by decide, by decide +kernel⟩
theorem dw_L_93 : dk_WV "DuckWalkLaw" 93 yX9_tilt cX9_tilt 3 (some .int) 1 := ⟨dk_m5 190 rfl rfl, dk_m5 191 rfl rfl, dk_m5 192 rfl rfl, dk_m1 10 rfl rfl, dk_m5 193 rfl rfl, by decide, by decide, by decide +kernel⟩
theorem dw_L_97 : dk_WV "DuckWalkLaw" 97 yX9_keep cX9_keep 2 (some .int) 1 := ⟨dk_m5 194 rfl rfl, dk_m5 195 rfl rfl, dk_m5 196 rfl rfl, dk_m1 10 rfl rfl, dk_m5 197 rfl rfl, by decide, by decide, by decide +kernel⟩
theorem dw_X9_200 : dk_WV "DuckWalkModel" 200 yX9_copyWalk cX9_copyWalk 4 none 2 := ⟨dk_m5 198 rfl rfl, dk_m5 200 rfl rfl, dk_mp 37 rfl rfl, dk_m1 10 rfl rfl, dk_m5 201 rfl rfl, by decide, by decide, by decide +kernel⟩
theorem dw_L_101 : dk_WV "DuckWalkLaw" 101 yX9_on cX9_on 2 (some .int) 1 := ⟨dk_m5 202 rfl rfl, dk_m5 203 rfl rfl, dk_m5 204 rfl rfl, dk_m1 10 rfl rfl, dk_m5 205 rfl rfl, by decide, by decide, by decide +kernel⟩
theorem dw_L_106 : dk_WV "DuckWalkLaw" 106 yX9_turns cX9_turns 4 (some .int) 0 := ⟨dk_m5 206 rfl rfl, dk_m5 207 rfl rfl, dk_m5 208 rfl rfl, dk_m1 10 rfl rfl, dk_m5 209 rfl rfl, by decide, by decide, by decide +kernel⟩
theorem dw_L_111 : dk_WV "DuckWalkLaw" 111 yX9_going cX9_going 7 (some .int) 4 := ⟨dk_m5 210 rfl rfl, dk_m5 211 rfl rfl, dk_m5 212 rfl rfl, dk_m1 10 rfl rfl, dk_m5 213 rfl rfl, by decide, by decide, by decide +kernel⟩
theorem dw_X9_238 : dk_WV "DuckWalkModel" 238 yX9_need cX9_need 6 (some .int) 5 := ⟨dk_m5 214 rfl rfl, dk_m5 216 rfl rfl, dk_mp 38 rfl rfl, dk_m1 10 rfl rfl, dk_m5 217 rfl rfl, by decide, by decide, by decide +kernel⟩
theorem dw_X9_230 : dk_WV "DuckWalkModel" 230 yX9_areGood cX9_areGood 5 (some .boolean) 4 := ⟨dk_m5 218 rfl rfl, dk_m5 220 rfl rfl, dk_mp 39 rfl rfl, dk_m1 10 rfl rfl, dk_m5 221 rfl rfl, by decide, by decide, by decide +kernel⟩
theorem dw_X9_234 : dk_WV "DuckWalkModel" 234 yX9_looksAt cX9_looksAt 5 none 3 := ⟨dk_m5 222 rfl rfl, dk_m5 224 rfl rfl, dk_mp 40 rfl rfl, dk_m1 10 rfl rfl, dk_m5 225 rfl rfl, by decide, by decide, by decide +kernel⟩
theorem dw_X9_224 : dk_WV "DuckWalkModel" 224 yX9_goingOf cX9_goingOf 4 (some .int) 1 := ⟨dk_m5 226 rfl rfl, dk_m5 228 rfl rfl, dk_mp 41 rfl rfl, dk_m1 10 rfl rfl, dk_m5 229 rfl rfl, by decide, by decide, by decide +kernel⟩
theorem dw_X9_206 : dk_WV "DuckWalkModel" 206 yX9_steps cX9_steps 2 none 1 := ⟨dk_m5 230 rfl rfl, dk_m5 232 rfl rfl, dk_mp 42 rfl rfl, dk_m1 10 rfl rfl, dk_m5 233 rfl rfl, by decide, by decide, by decide +kernel⟩
theorem dw_X9_218 : dk_WS "DuckWalkModel" 218 yX9_lesser cX9_lesser 2 (some .int) 2 := ⟨dk_m5 234 rfl rfl, dk_m5 235 rfl rfl, dk_m1 10 rfl rfl, dk_m5 236 rfl rfl, by decide, by decide, by decide +kernel⟩
theorem dw_X9_221 : dk_WS "DuckWalkModel" 221 yX9_greater cX9_greater 2 (some .int) 2 := ⟨dk_m5 237 rfl rfl, dk_m5 238 rfl rfl, dk_m1 10 rfl rfl, dk_m5 239 rfl rfl, by decide, by decide, by decide +kernel⟩
theorem dw_L_115 : dk_WV "DuckWalkLaw" 115 yX9_mark cX9_mark 7 (some .int) 5 := ⟨dk_m6 0 rfl rfl, dk_m6 1 rfl rfl, dk_m6 2 rfl rfl, dk_m1 10 rfl rfl, dk_m6 3 rfl rfl, by decide, by decide, by decide +kernel⟩
theorem dw_X9_227 : dk_WS "DuckWalkModel" 227 yX9_isOf cX9_isOf 2 (some .boolean) 2 := ⟨dk_m6 4 rfl rfl, dk_m6 5 rfl rfl, dk_m1 10 rfl rfl, dk_m6 6 rfl rfl, by decide, by decide, by decide +kernel⟩
theorem dw_X9_242 : dk_WV "DuckWalkModel" 242 yX9_unlikePaces cX9_unlikePaces 4 (some .int) 1 := ⟨dk_m6 7 rfl rfl, dk_m6 9 rfl rfl, dk_mp 43 rfl rfl, dk_m1 10 rfl rfl, dk_m6 10 rfl rfl, by decide, by decide, by decide +kernel⟩
theorem dw_L_119 : dk_WV "DuckWalkLaw" 119 yX9_lines cX9_lines 9 (some .int) 4 := ⟨dk_m6 11 rfl rfl, dk_m6 12 rfl rfl, dk_m6 13 rfl rfl, dk_m1 10 rfl rfl, dk_m6 14 rfl rfl, by decide, by decide, by decide +kernel⟩
theorem dw_L_123 : dk_WV "DuckWalkLaw" 123 yX9_begins cX9_begins 8 (some .int) 3 := ⟨dk_m6 15 rfl rfl, dk_m6 16 rfl rfl, dk_m6 17 rfl rfl, dk_m1 10 rfl rfl, dk_m6 18 rfl rfl, by decide, by decide, by decide +kernel⟩
theorem dw_X9_245 : dk_WV "DuckWalkModel" 245 yX9_walksWell cX9_walksWell 2 (some .boolean) 1 := ⟨dk_m6 19 rfl rfl, dk_m6 21 rfl rfl, dk_mp 44 rfl rfl, dk_m1 10 rfl rfl, dk_m6 22 rfl rfl, by decide, by decide, by decide +kernel⟩
theorem dw_L_127 : dk_WV "DuckWalkLaw" 127 yX9_mends cX9_mends 9 (some .int) 5 := ⟨dk_m6 23 rfl rfl, dk_m6 24 rfl rfl, dk_m6 25 rfl rfl, dk_m1 10 rfl rfl, dk_m6 26 rfl rfl, by decide, by decide, by decide +kernel⟩
theorem dw_L_131 : dk_WV "DuckWalkLaw" 131 yX9_wide cX9_wide 9 (some .int) 3 := ⟨dk_m6 27 rfl rfl, dk_m6 28 rfl rfl, dk_m6 29 rfl rfl, dk_m1 10 rfl rfl, dk_m6 30 rfl rfl, by decide, by decide, by decide +kernel⟩
theorem dw_X9_248 : dk_WV "DuckWalkModel" 248 yX9_span cX9_span 4 (some .int) 1 := ⟨dk_m6 31 rfl rfl, dk_m6 33 rfl rfl, dk_mp 45 rfl rfl, dk_m1 10 rfl rfl, dk_m6 34 rfl rfl, by decide, by decide, by decide +kernel⟩
theorem dw_L_135 : dk_WV "DuckWalkLaw" 135 yX9_mend cX9_mend 8 (some .int) 4 := ⟨dk_m6 35 rfl rfl, dk_m6 36 rfl rfl, dk_m6 37 rfl rfl, dk_m1 10 rfl rfl, dk_m6 38 rfl rfl, by decide, by decide, by decide +kernel⟩
theorem dw_L_139 : dk_WV "DuckWalkLaw" 139 yX9_limp cX9_limp 9 (some .int) 3 := ⟨dk_m6 39 rfl rfl, dk_m6 40 rfl rfl, dk_m6 41 rfl rfl, dk_m1 10 rfl rfl, dk_m6 42 rfl rfl, by decide, by decide, by decide +kernel⟩
theorem dw_X9_251 : dk_WV "DuckWalkModel" 251 yX9_needTocks cX9_needTocks 6 (some .int) 3 := ⟨dk_m6 43 rfl rfl, dk_m6 45 rfl rfl, dk_mp 46 rfl rfl, dk_m1 10 rfl rfl, dk_m6 46 rfl rfl, by decide, by decide, by decide +kernel⟩
theorem dw_X9_255 : dk_WV "DuckWalkModel" 255 yX9_offTocks cX9_offTocks 7 (some .int) 3 := ⟨dk_m6 47 rfl rfl, dk_m6 49 rfl rfl, dk_mp 47 rfl rfl, dk_m1 10 rfl rfl, dk_m6 50 rfl rfl, by decide, by decide, by decide +kernel⟩
theorem dw_L_143 : dk_WV "DuckWalkLaw" 143 yX9_odds cX9_odds 10 (some .int) 3 := ⟨dk_m6 51 rfl rfl, dk_m6 52 rfl rfl, dk_m6 53 rfl rfl, dk_m1 10 rfl rfl, dk_m6 54 rfl rfl, by decide, by decide, by decide +kernel⟩
theorem dw_X9_258 : dk_WV "DuckWalkModel" 258 yX9_fraction cX9_fraction 12 (some .int) 3 := ⟨dk_m6 55 rfl rfl, dk_m6 57 rfl rfl, dk_mp 48 rfl rfl, dk_m1 10 rfl rfl, dk_m6 58 rfl rfl, by decide, by decide, by decide +kernel⟩
theorem dw_L_147 : dk_WV "DuckWalkLaw" 147 yX9_part cX9_part 8 (some .int) 4 := ⟨dk_m6 59 rfl rfl, dk_m6 60 rfl rfl, dk_m6 61 rfl rfl, dk_m1 10 rfl rfl, dk_m6 62 rfl rfl, by decide, by decide, by decide +kernel⟩
theorem dw_L_151 : dk_WV "DuckWalkLaw" 151 yX9_made cX9_made 9 (some .int) 4 := ⟨dk_m6 63 rfl rfl, dk_m6 64 rfl rfl, dk_m6 65 rfl rfl, dk_m1 10 rfl rfl, dk_m6 66 rfl rfl, by decide, by decide, by decide +kernel⟩
theorem dw_L_155 : dk_WV "DuckWalkLaw" 155 yX9_would cX9_would 13 (some .int) 4 := ⟨dk_m6 67 rfl rfl, dk_m6 68 rfl rfl, dk_m6 69 rfl rfl, dk_m1 10 rfl rfl, dk_m6 70 rfl rfl, by decide, by decide, by decide +kernel⟩
theorem dw_L_159 : dk_WV "DuckWalkLaw" 159 yX9_yard cX9_yard 8 (some .int) 5 := ⟨dk_m6 71 rfl rfl, dk_m6 72 rfl rfl, dk_m6 73 rfl rfl, dk_m1 10 rfl rfl, dk_m6 74 rfl rfl, by decide, by decide, by decide +kernel⟩
theorem dw_L_163 : dk_WV "DuckWalkLaw" 163 yX9_push cX9_push 9 (some .int) 3 := ⟨dk_m6 75 rfl rfl, dk_m6 76 rfl rfl, dk_m6 77 rfl rfl, dk_m1 10 rfl rfl, dk_m6 78 rfl rfl, by decide, by decide, by decide +kernel⟩
theorem dw_L_167 : dk_WV "DuckWalkLaw" 167 yX9_bears cX9_bears 10 (some .int) 5 := ⟨dk_m6 79 rfl rfl, dk_m6 80 rfl rfl, dk_m6 81 rfl rfl, dk_m1 10 rfl rfl, dk_m6 82 rfl rfl, by decide, by decide, by decide +kernel⟩
theorem dw_L_171 : dk_WV "DuckWalkLaw" 171 yX9_meets cX9_meets 7 (some .int) 5 := ⟨dk_m6 83 rfl rfl, dk_m6 84 rfl rfl, dk_m6 85 rfl rfl, dk_m1 10 rfl rfl, dk_m6 86 rfl rfl, by decide, by decide, by decide +kernel⟩
theorem dw_L_188 : dk_WV "DuckWalkLaw" 188 yX9_count cX9_count 2 (some .int) 1 := ⟨dk_m6 87 rfl rfl, dk_m6 88 rfl rfl, dk_m6 89 rfl rfl, dk_m1 10 rfl rfl, dk_m6 90 rfl rfl, by decide, by decide, by decide +kernel⟩
theorem dw_X9_262 : dk_WV "DuckWalkModel" 262 yX9_counted cX9_counted 4 (some .int) 1 := ⟨dk_m6 91 rfl rfl, dk_m6 93 rfl rfl, dk_mp 49 rfl rfl, dk_m1 10 rfl rfl, dk_m6 94 rfl rfl, by decide, by decide, by decide +kernel⟩
theorem dw_L_200 : dk_WV "DuckWalkLaw" 200 yX9_digest cX9_digest 3 (some .long) 0 := ⟨dk_m6 95 rfl rfl, dk_m6 96 rfl rfl, dk_m6 97 rfl rfl, dk_m1 10 rfl rfl, dk_m6 98 rfl rfl, by decide, by decide, by decide +kernel⟩
theorem dw_X9_272 : dk_WV "DuckWalkModel" 272 yX9_mix cX9_mix 3 none 1 := ⟨dk_m6 100 rfl rfl, dk_m6 102 rfl rfl, dk_mp 50 rfl rfl, dk_m1 10 rfl rfl, dk_m6 103 rfl rfl, by decide, by decide, by decide +kernel⟩
theorem dw_X9_278 : dk_WV "DuckWalkModel" 278 yX9_mixBooks cX9_mixBooks 3 none 0 := ⟨dk_m6 105 rfl rfl, dk_m6 107 rfl rfl, dk_mp 51 rfl rfl, dk_m1 10 rfl rfl, dk_m6 108 rfl rfl, by decide, by decide, by decide +kernel⟩
theorem dr_50 : dk_Rw 50 6 31 2 4 := by
  intro g S k h
  refine ⟨_, ?_, rfl⟩
  rw [dk_at (dk_kd_lt h (by decide))]
  unfold dk_cel dk_ce
  rw [h]
  rfl
theorem dr_51 : dk_Rw 51 4 43 2 5 := by
  intro g S k h
  refine ⟨_, ?_, rfl⟩
  rw [dk_at (dk_kd_lt h (by decide))]
  unfold dk_cel dk_ce
  rw [h]
  rfl
theorem dr_52 : dk_Rw 52 4 51 2 6 := by
  intro g S k h
  refine ⟨_, ?_, rfl⟩
  rw [dk_at (dk_kd_lt h (by decide))]
  unfold dk_cel dk_ce
  rw [h]
  rfl
theorem dr_53 : dk_Rw 53 4 59 2 7 := by
  intro g S k h
  refine ⟨_, ?_, rfl⟩
  rw [dk_at (dk_kd_lt h (by decide))]
  unfold dk_cel dk_ce
  rw [h]
  rfl
theorem dr_54 : dk_Rw 54 3 67 5 8 := by
  intro g S k h
  refine ⟨_, ?_, rfl⟩
  rw [dk_at (dk_kd_lt h (by decide))]
  unfold dk_cel dk_ce
  rw [h]
  rfl
theorem dt_all : ∀ k, k < 103 → (dk_kd k = 0 → dk_kd (k + 1) = 1 ∧ dk_kd (k + 2) = 1006 ∧ dk_kd (k + 3) = 3 ∧ dk_kd (k + 4) = 1100) ∧ (dk_kd k = 1 → dk_kd (k + 1) = 1006) ∧ (dk_kd k = 3 → dk_kd (k + 1) = 1100) ∧ (dk_kd k = 5 → dk_kd (k + 1) = 1060) ∧ (dk_kd k = 6 → dk_kd (k + 1) = 2080) := by decide +kernel
theorem dt_0_1 {k : Nat} (h : dk_kd k = 0) : dk_kd (k + 1) = 1 := ((dt_all k (dk_kd_lt h (by decide))).1 h).1
theorem dt_0_2 {k : Nat} (h : dk_kd k = 0) : dk_kd (k + 2) = 1006 := ((dt_all k (dk_kd_lt h (by decide))).1 h).2.1
theorem dt_0_3 {k : Nat} (h : dk_kd k = 0) : dk_kd (k + 3) = 3 := ((dt_all k (dk_kd_lt h (by decide))).1 h).2.2.1
theorem dt_0_4 {k : Nat} (h : dk_kd k = 0) : dk_kd (k + 4) = 1100 := ((dt_all k (dk_kd_lt h (by decide))).1 h).2.2.2
theorem dt_1_1 {k : Nat} (h : dk_kd k = 1) : dk_kd (k + 1) = 1006 := (dt_all k (dk_kd_lt h (by decide))).2.1 h
theorem dt_3_1 {k : Nat} (h : dk_kd k = 3) : dk_kd (k + 1) = 1100 := (dt_all k (dk_kd_lt h (by decide))).2.2.1 h
theorem dt_5_1 {k : Nat} (h : dk_kd k = 5) : dk_kd (k + 1) = 1060 := (dt_all k (dk_kd_lt h (by decide))).2.2.2.1 h
theorem dt_6_1 {k : Nat} (h : dk_kd k = 6) : dk_kd (k + 1) = 2080 := (dt_all k (dk_kd_lt h (by decide))).2.2.2.2 h
theorem dt_el : (∀ i, i < 6 → dk_kd (31 + 2 * i) = 5) ∧ (∀ i, i < 4 → dk_kd (43 + 2 * i) = 6) ∧ (∀ i, i < 4 → dk_kd (51 + 2 * i) = 1) ∧ (∀ i, i < 4 → dk_kd (59 + 2 * i) = 3) ∧ (∀ i, i < 3 → dk_kd (67 + 5 * i) = 0) := by decide +kernel
theorem dk_in_lt {i : Int32} {n : Nat} (h : dk_in i n = true) : i.toNatClampNeg < n := Nat.not_le.mp fun q => dk_in_of h (Or.inr q)
theorem dt_50 {i : Int32} (h : dk_in i 6 = true) : dk_kd (31 + 2 * i.toNatClampNeg) = 5 := dt_el.1 _ (dk_in_lt h)
theorem dt_51 {i : Int32} (h : dk_in i 4 = true) : dk_kd (43 + 2 * i.toNatClampNeg) = 6 := dt_el.2.1 _ (dk_in_lt h)
theorem dt_52 {i : Int32} (h : dk_in i 4 = true) : dk_kd (51 + 2 * i.toNatClampNeg) = 1 := dt_el.2.2.1 _ (dk_in_lt h)
theorem dt_53 {i : Int32} (h : dk_in i 4 = true) : dk_kd (59 + 2 * i.toNatClampNeg) = 3 := dt_el.2.2.2.1 _ (dk_in_lt h)
theorem dt_54 {i : Int32} (h : dk_in i 3 = true) : dk_kd (67 + 5 * i.toNatClampNeg) = 0 := dt_el.2.2.2.2 _ (dk_in_lt h)
theorem dc_bipush_m9 : (Int8.ofInt (-9)).toInt32 = (-9 : Int32) := by decide
theorem dc_bipush_m6 : (Int8.ofInt (-6)).toInt32 = (-6 : Int32) := by decide
theorem dc_bipush_m4 : (Int8.ofInt (-4)).toInt32 = (-4 : Int32) := by decide
theorem dc_bipush_m3 : (Int8.ofInt (-3)).toInt32 = (-3 : Int32) := by decide
theorem dc_bipush_6 : (Int8.ofInt 6).toInt32 = (6 : Int32) := by decide
theorem dc_bipush_7 : (Int8.ofInt 7).toInt32 = (7 : Int32) := by decide
theorem dc_bipush_8 : (Int8.ofInt 8).toInt32 = (8 : Int32) := by decide
theorem dc_bipush_9 : (Int8.ofInt 9).toInt32 = (9 : Int32) := by decide
theorem dc_bipush_10 : (Int8.ofInt 10).toInt32 = (10 : Int32) := by decide
theorem dc_bipush_11 : (Int8.ofInt 11).toInt32 = (11 : Int32) := by decide
theorem dc_bipush_12 : (Int8.ofInt 12).toInt32 = (12 : Int32) := by decide
theorem dc_bipush_13 : (Int8.ofInt 13).toInt32 = (13 : Int32) := by decide
theorem dc_bipush_14 : (Int8.ofInt 14).toInt32 = (14 : Int32) := by decide
theorem dc_bipush_16 : (Int8.ofInt 16).toInt32 = (16 : Int32) := by decide
theorem dc_bipush_18 : (Int8.ofInt 18).toInt32 = (18 : Int32) := by decide
theorem dc_bipush_20 : (Int8.ofInt 20).toInt32 = (20 : Int32) := by decide
theorem dc_bipush_27 : (Int8.ofInt 27).toInt32 = (27 : Int32) := by decide
theorem dc_bipush_28 : (Int8.ofInt 28).toInt32 = (28 : Int32) := by decide
theorem dc_bipush_32 : (Int8.ofInt 32).toInt32 = (32 : Int32) := by decide
theorem dc_bipush_48 : (Int8.ofInt 48).toInt32 = (48 : Int32) := by decide
theorem dc_bipush_57 : (Int8.ofInt 57).toInt32 = (57 : Int32) := by decide
theorem dc_bipush_58 : (Int8.ofInt 58).toInt32 = (58 : Int32) := by decide
theorem dc_bipush_60 : (Int8.ofInt 60).toInt32 = (60 : Int32) := by decide
theorem dc_bipush_63 : (Int8.ofInt 63).toInt32 = (63 : Int32) := by decide
theorem dc_bipush_64 : (Int8.ofInt 64).toInt32 = (64 : Int32) := by decide
theorem dc_bipush_80 : (Int8.ofInt 80).toInt32 = (80 : Int32) := by decide
theorem dc_bipush_81 : (Int8.ofInt 81).toInt32 = (81 : Int32) := by decide
theorem dc_bipush_98 : (Int8.ofInt 98).toInt32 = (98 : Int32) := by decide
theorem dc_bipush_99 : (Int8.ofInt 99).toInt32 = (99 : Int32) := by decide
theorem dc_bipush_100 : (Int8.ofInt 100).toInt32 = (100 : Int32) := by decide
theorem dc_bipush_101 : (Int8.ofInt 101).toInt32 = (101 : Int32) := by decide
theorem dc_bipush_114 : (Int8.ofInt 114).toInt32 = (114 : Int32) := by decide
theorem dc_bipush_117 : (Int8.ofInt 117).toInt32 = (117 : Int32) := by decide
theorem dc_bipush_127 : (Int8.ofInt 127).toInt32 = (127 : Int32) := by decide
theorem dc_iconst_m1 : Int32.ofInt (-1) = (-1 : Int32) := by decide
theorem dc_iconst_0 : Int32.ofInt 0 = (0 : Int32) := by decide
theorem dc_iconst_1 : Int32.ofInt 1 = (1 : Int32) := by decide
theorem dc_iconst_2 : Int32.ofInt 2 = (2 : Int32) := by decide
theorem dc_iconst_3 : Int32.ofInt 3 = (3 : Int32) := by decide
theorem dc_iconst_4 : Int32.ofInt 4 = (4 : Int32) := by decide
theorem dc_iconst_5 : Int32.ofInt 5 = (5 : Int32) := by decide
theorem dc_iconst_6 : Int32.ofInt 6 = (6 : Int32) := by decide
theorem dc_sipush_199 : (Int16.ofInt 199).toInt32 = (199 : Int32) := by decide
theorem dc_sipush_200 : (Int16.ofInt 200).toInt32 = (200 : Int32) := by decide
theorem dc_sipush_320 : (Int16.ofInt 320).toInt32 = (320 : Int32) := by decide
theorem dc_sipush_360 : (Int16.ofInt 360).toInt32 = (360 : Int32) := by decide
theorem dc_sipush_400 : (Int16.ofInt 400).toInt32 = (400 : Int32) := by decide
theorem dc_sipush_401 : (Int16.ofInt 401).toInt32 = (401 : Int32) := by decide
theorem dc_sipush_404 : (Int16.ofInt 404).toInt32 = (404 : Int32) := by decide
theorem dc_sipush_456 : (Int16.ofInt 456).toInt32 = (456 : Int32) := by decide
theorem dc_sipush_1000 : (Int16.ofInt 1000).toInt32 = (1000 : Int32) := by decide
theorem dc_sipush_2000 : (Int16.ofInt 2000).toInt32 = (2000 : Int32) := by decide
theorem dc_sipush_10000 : (Int16.ofInt 10000).toInt32 = (10000 : Int32) := by decide
