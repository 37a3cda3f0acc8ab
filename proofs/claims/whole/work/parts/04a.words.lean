theorem inX0z : ∀ w ∈ u_ws RX0 TX0 3, w ∈ tz := tz_ws [285, 287, 289] (by decide +kernel) (by decide +kernel)
theorem inX1z : ∀ w ∈ u_ws RX1 TX1 1, w ∈ tz := tz_ws [240] (by decide +kernel) (by decide +kernel)
theorem inX2z : ∀ w ∈ u_ws RX2 TX2 8, w ∈ tz := tz_ws [258, 260, 262, 264, 266, 268, 270, 272] (by decide +kernel) (by decide +kernel)
theorem inX3z : ∀ w ∈ u_ws RX3 TX3 5, w ∈ tz := tz_ws [168, 170, 172, 174, 176] (by decide +kernel) (by decide +kernel)
theorem inX4z : ∀ w ∈ u_ws RX4 TX4 6, w ∈ tz := tz_ws [218, 220, 222, 224, 226, 228] (by decide +kernel) (by decide +kernel)
theorem inX5z : ∀ w ∈ u_ws RX5 TX5 3, w ∈ tz := tz_ws [330, 332, 334] (by decide +kernel) (by decide +kernel)
theorem inX6z : ∀ w ∈ u_ws RX6 TX6 8, w ∈ tz := tz_ws [121, 123, 125, 127, 129, 131, 133, 135] (by decide +kernel) (by decide +kernel)
theorem inX7z : ∀ w ∈ u_ws RX7 TX7 5, w ∈ tz := tz_ws [192, 194, 196, 198, 200] (by decide +kernel) (by decide +kernel)
theorem inX8z : ∀ w ∈ u_ws RX8 TX8 5, w ∈ tz := tz_ws [72, 74, 76, 78, 80] (by decide +kernel) (by decide +kernel)
theorem inX9z : ∀ w ∈ u_ws RX9 TX9 6, w ∈ tz := tz_ws [307, 309, 311, 313, 315, 317] (by decide +kernel) (by decide +kernel)
theorem inX10z : ∀ w ∈ u_ws RX10 TX10 10, w ∈ tz := tz_ws [347, 349, 351, 353, 355, 357, 359, 361, 363, 365] (by decide +kernel) (by decide +kernel)
theorem inX11z : ∀ w ∈ u_ws RX11 TX11 42, w ∈ tz := tz_ws [908, 910, 912, 914, 916, 918, 920, 922, 924, 926, 928, 930, 932, 934, 936, 938, 940, 942, 944, 946, 948, 950, 952, 954, 956, 958, 960, 962, 964, 966, 968, 970, 972, 974, 976, 978, 980, 982, 984, 986, 988, 990] (by decide +kernel) (by decide +kernel)
theorem fl_X10_12 : Cond.fieldLink RX10 12 (TX10 0).1 (TX10 0).2.1 (TX10 0).2.2.1 ∈ tz := tz_in 337 (by decide +kernel) (by decide +kernel)
theorem fl_X10_19 : Cond.fieldLink RX10 19 (TX10 1).1 (TX10 1).2.1 (TX10 1).2.2.1 ∈ tz := tz_in 338 (by decide +kernel) (by decide +kernel)
theorem fl_X10_23 : Cond.fieldLink RX10 23 (TX10 2).1 (TX10 2).2.1 (TX10 2).2.2.1 ∈ tz := tz_in 339 (by decide +kernel) (by decide +kernel)
theorem fl_X10_31 : Cond.fieldLink RX10 31 (TX10 3).1 (TX10 3).2.1 (TX10 3).2.2.1 ∈ tz := tz_in 340 (by decide +kernel) (by decide +kernel)
theorem fl_X10_38 : Cond.fieldLink RX10 38 (TX10 4).1 (TX10 4).2.1 (TX10 4).2.2.1 ∈ tz := tz_in 341 (by decide +kernel) (by decide +kernel)
theorem fl_X10_45 : Cond.fieldLink RX10 45 (TX10 5).1 (TX10 5).2.1 (TX10 5).2.2.1 ∈ tz := tz_in 342 (by decide +kernel) (by decide +kernel)
theorem fl_X10_52 : Cond.fieldLink RX10 52 (TX10 6).1 (TX10 6).2.1 (TX10 6).2.2.1 ∈ tz := tz_in 343 (by decide +kernel) (by decide +kernel)
theorem fl_X10_59 : Cond.fieldLink RX10 59 (TX10 7).1 (TX10 7).2.1 (TX10 7).2.2.1 ∈ tz := tz_in 344 (by decide +kernel) (by decide +kernel)
theorem fl_X10_66 : Cond.fieldLink RX10 66 (TX10 8).1 (TX10 8).2.1 (TX10 8).2.2.1 ∈ tz := tz_in 345 (by decide +kernel) (by decide +kernel)
theorem fl_X10_73 : Cond.fieldLink RX10 73 (TX10 9).1 (TX10 9).2.1 (TX10 9).2.2.1 ∈ tz := tz_in 346 (by decide +kernel) (by decide +kernel)
theorem fl_X10_82 : Cond.fieldLink RX10 82 (TX8 1).1 (TX8 1).2.1 (TX8 1).2.2.1 ∈ tz := tz_in 66 (by decide +kernel) (by decide +kernel)
theorem fl_X10_94 : Cond.fieldLink RX10 94 (TX8 3).1 (TX8 3).2.1 (TX8 3).2.2.1 ∈ tz := tz_in 69 (by decide +kernel) (by decide +kernel)
theorem fl_X10_100 : Cond.fieldLink RX10 100 (TX4 2).1 (TX4 2).2.1 (TX4 2).2.2.1 ∈ tz := tz_in 213 (by decide +kernel) (by decide +kernel)
theorem fl_X10_103 : Cond.fieldLink RX10 103 (TX4 5).1 (TX4 5).2.1 (TX4 5).2.2.1 ∈ tz := tz_in 216 (by decide +kernel) (by decide +kernel)
theorem fl_X10_106 : Cond.fieldLink RX10 106 (TX2 3).1 (TX2 3).2.1 (TX2 3).2.2.1 ∈ tz := tz_in 253 (by decide +kernel) (by decide +kernel)
theorem fl_X10_107 : Cond.fieldLink RX10 107 (TX0 2).1 (TX0 2).2.1 (TX0 2).2.2.1 ∈ tz := tz_in 284 (by decide +kernel) (by decide +kernel)
theorem fl_X10_108 : Cond.fieldLink RX10 108 (TX6 2).1 (TX6 2).2.1 (TX6 2).2.2.1 ∈ tz := tz_in 102 (by decide +kernel) (by decide +kernel)
theorem fl_X10_111 : Cond.fieldLink RX10 111 (TX8 4).1 (TX8 4).2.1 (TX8 4).2.2.1 ∈ tz := tz_in 71 (by decide +kernel) (by decide +kernel)
theorem fl_X10_114 : Cond.fieldLink RX10 114 (TX6 0).1 (TX6 0).2.1 (TX6 0).2.2.1 ∈ tz := tz_in 94 (by decide +kernel) (by decide +kernel)
theorem fl_X10_117 : Cond.fieldLink RX10 117 (TX7 2).1 (TX7 2).2.1 (TX7 2).2.2.1 ∈ tz := tz_in 185 (by decide +kernel) (by decide +kernel)
theorem fl_X10_120 : Cond.fieldLink RX10 120 (TX6 3).1 (TX6 3).2.1 (TX6 3).2.2.1 ∈ tz := tz_in 106 (by decide +kernel) (by decide +kernel)
theorem fl_X10_123 : Cond.fieldLink RX10 123 (TX7 1).1 (TX7 1).2.1 (TX7 1).2.2.1 ∈ tz := tz_in 182 (by decide +kernel) (by decide +kernel)
theorem fl_X10_130 : Cond.fieldLink RX10 130 (TX7 3).1 (TX7 3).2.1 (TX7 3).2.2.1 ∈ tz := tz_in 187 (by decide +kernel) (by decide +kernel)
theorem fl_X10_150 : Cond.fieldLink RX10 150 (TX7 4).1 (TX7 4).2.1 (TX7 4).2.2.1 ∈ tz := tz_in 191 (by decide +kernel) (by decide +kernel)
theorem fl_X10_153 : Cond.fieldLink RX10 153 (TX3 0).1 (TX3 0).2.1 (TX3 0).2.2.1 ∈ tz := tz_in 152 (by decide +kernel) (by decide +kernel)
theorem fl_X10_158 : Cond.fieldLink RX10 158 (TX3 1).1 (TX3 1).2.1 (TX3 1).2.2.1 ∈ tz := tz_in 155 (by decide +kernel) (by decide +kernel)
theorem fl_X10_161 : Cond.fieldLink RX10 161 (TX3 2).1 (TX3 2).2.1 (TX3 2).2.2.1 ∈ tz := tz_in 159 (by decide +kernel) (by decide +kernel)
theorem fl_X10_171 : Cond.fieldLink RX10 171 (TX3 3).1 (TX3 3).2.1 (TX3 3).2.2.1 ∈ tz := tz_in 162 (by decide +kernel) (by decide +kernel)
theorem fl_X10_175 : Cond.fieldLink RX10 175 (TX3 4).1 (TX3 4).2.1 (TX3 4).2.2.1 ∈ tz := tz_in 165 (by decide +kernel) (by decide +kernel)
theorem fl_X10_181 : Cond.fieldLink RX10 181 (TX6 6).1 (TX6 6).2.1 (TX6 6).2.2.1 ∈ tz := tz_in 116 (by decide +kernel) (by decide +kernel)
theorem fl_X10_184 : Cond.fieldLink RX10 184 (TX6 7).1 (TX6 7).2.1 (TX6 7).2.2.1 ∈ tz := tz_in 119 (by decide +kernel) (by decide +kernel)
theorem fl_X10_229 : Cond.fieldLink RX10 229 (TX9 0).1 (TX9 0).2.1 (TX9 0).2.2.1 ∈ tz := tz_in 301 (by decide +kernel) (by decide +kernel)
theorem fl_X10_260 : Cond.fieldLink RX10 260 (TX5 0).1 (TX5 0).2.1 (TX5 0).2.2.1 ∈ tz := tz_in 327 (by decide +kernel) (by decide +kernel)
theorem fl_X10_314 : Cond.fieldLink RX10 314 (TX1 0).1 (TX1 0).2.1 (TX1 0).2.2.1 ∈ tz := tz_in 239 (by decide +kernel) (by decide +kernel)
theorem fl_X0_9 : Cond.fieldLink RX0 9 (TX0 0).1 (TX0 0).2.1 (TX0 0).2.2.1 ∈ tz := tz_in 281 (by decide +kernel) (by decide +kernel)
theorem fl_X0_15 : Cond.fieldLink RX0 15 (TX0 1).1 (TX0 1).2.1 (TX0 1).2.2.1 ∈ tz := tz_in 282 (by decide +kernel) (by decide +kernel)
theorem fl_X0_18 : Cond.fieldLink RX0 18 (TX0 2).1 (TX0 2).2.1 (TX0 2).2.2.1 ∈ tz := tz_in 283 (by decide +kernel) (by decide +kernel)
theorem fl_X0_22 : Cond.fieldLink RX0 22 (TX7 4).1 (TX7 4).2.1 (TX7 4).2.2.1 ∈ tz := tz_in 190 (by decide +kernel) (by decide +kernel)
theorem fl_X0_28 : Cond.fieldLink RX0 28 (TX3 2).1 (TX3 2).2.1 (TX3 2).2.2.1 ∈ tz := tz_in 157 (by decide +kernel) (by decide +kernel)
theorem fl_X1_7 : Cond.fieldLink RX1 7 (TX1 0).1 (TX1 0).2.1 (TX1 0).2.2.1 ∈ tz := tz_in 237 (by decide +kernel) (by decide +kernel)
theorem fl_X2_9 : Cond.fieldLink RX2 9 (TX2 0).1 (TX2 0).2.1 (TX2 0).2.2.1 ∈ tz := tz_in 249 (by decide +kernel) (by decide +kernel)
theorem fl_X2_15 : Cond.fieldLink RX2 15 (TX2 1).1 (TX2 1).2.1 (TX2 1).2.2.1 ∈ tz := tz_in 250 (by decide +kernel) (by decide +kernel)
theorem fl_X2_18 : Cond.fieldLink RX2 18 (TX2 2).1 (TX2 2).2.1 (TX2 2).2.2.1 ∈ tz := tz_in 251 (by decide +kernel) (by decide +kernel)
theorem fl_X2_21 : Cond.fieldLink RX2 21 (TX2 5).1 (TX2 5).2.1 (TX2 5).2.2.1 ∈ tz := tz_in 255 (by decide +kernel) (by decide +kernel)
theorem fl_X2_24 : Cond.fieldLink RX2 24 (TX2 6).1 (TX2 6).2.1 (TX2 6).2.2.1 ∈ tz := tz_in 256 (by decide +kernel) (by decide +kernel)
theorem fl_X2_27 : Cond.fieldLink RX2 27 (TX2 7).1 (TX2 7).2.1 (TX2 7).2.2.1 ∈ tz := tz_in 257 (by decide +kernel) (by decide +kernel)
theorem fl_X2_30 : Cond.fieldLink RX2 30 (TX2 3).1 (TX2 3).2.1 (TX2 3).2.2.1 ∈ tz := tz_in 252 (by decide +kernel) (by decide +kernel)
theorem fl_X2_39 : Cond.fieldLink RX2 39 (TX2 4).1 (TX2 4).2.1 (TX2 4).2.2.1 ∈ tz := tz_in 254 (by decide +kernel) (by decide +kernel)
theorem fl_X2_42 : Cond.fieldLink RX2 42 (TX6 3).1 (TX6 3).2.1 (TX6 3).2.2.1 ∈ tz := tz_in 105 (by decide +kernel) (by decide +kernel)
theorem fl_X3_9 : Cond.fieldLink RX3 9 (TX3 3).1 (TX3 3).2.1 (TX3 3).2.2.1 ∈ tz := tz_in 160 (by decide +kernel) (by decide +kernel)
theorem fl_X3_15 : Cond.fieldLink RX3 15 (TX3 4).1 (TX3 4).2.1 (TX3 4).2.2.1 ∈ tz := tz_in 164 (by decide +kernel) (by decide +kernel)
theorem fl_X3_18 : Cond.fieldLink RX3 18 (TX6 4).1 (TX6 4).2.1 (TX6 4).2.2.1 ∈ tz := tz_in 110 (by decide +kernel) (by decide +kernel)
theorem fl_X3_23 : Cond.fieldLink RX3 23 (TX3 0).1 (TX3 0).2.1 (TX3 0).2.2.1 ∈ tz := tz_in 151 (by decide +kernel) (by decide +kernel)
theorem fl_X3_26 : Cond.fieldLink RX3 26 (TX3 1).1 (TX3 1).2.1 (TX3 1).2.2.1 ∈ tz := tz_in 153 (by decide +kernel) (by decide +kernel)
theorem fl_X3_29 : Cond.fieldLink RX3 29 (TX3 2).1 (TX3 2).2.1 (TX3 2).2.2.1 ∈ tz := tz_in 156 (by decide +kernel) (by decide +kernel)
theorem fl_X3_32 : Cond.fieldLink RX3 32 (TX6 5).1 (TX6 5).2.1 (TX6 5).2.2.1 ∈ tz := tz_in 113 (by decide +kernel) (by decide +kernel)
theorem fl_X4_11 : Cond.fieldLink RX4 11 (TX4 0).1 (TX4 0).2.1 (TX4 0).2.2.1 ∈ tz := tz_in 210 (by decide +kernel) (by decide +kernel)
theorem fl_X4_16 : Cond.fieldLink RX4 16 (TX4 3).1 (TX4 3).2.1 (TX4 3).2.2.1 ∈ tz := tz_in 214 (by decide +kernel) (by decide +kernel)
theorem fl_X4_19 : Cond.fieldLink RX4 19 (TX4 4).1 (TX4 4).2.1 (TX4 4).2.2.1 ∈ tz := tz_in 215 (by decide +kernel) (by decide +kernel)
theorem fl_X4_23 : Cond.fieldLink RX4 23 (TX4 1).1 (TX4 1).2.1 (TX4 1).2.2.1 ∈ tz := tz_in 211 (by decide +kernel) (by decide +kernel)
theorem fl_X4_33 : Cond.fieldLink RX4 33 (TX4 2).1 (TX4 2).2.1 (TX4 2).2.2.1 ∈ tz := tz_in 212 (by decide +kernel) (by decide +kernel)
theorem fl_X4_45 : Cond.fieldLink RX4 45 (TX4 5).1 (TX4 5).2.1 (TX4 5).2.2.1 ∈ tz := tz_in 217 (by decide +kernel) (by decide +kernel)
theorem fl_X4_48 : Cond.fieldLink RX4 48 (TX1 0).1 (TX1 0).2.1 (TX1 0).2.2.1 ∈ tz := tz_in 238 (by decide +kernel) (by decide +kernel)
theorem fl_X5_9 : Cond.fieldLink RX5 9 (TX5 0).1 (TX5 0).2.1 (TX5 0).2.2.1 ∈ tz := tz_in 326 (by decide +kernel) (by decide +kernel)
theorem fl_X5_15 : Cond.fieldLink RX5 15 (TX5 1).1 (TX5 1).2.1 (TX5 1).2.2.1 ∈ tz := tz_in 328 (by decide +kernel) (by decide +kernel)
theorem fl_X5_18 : Cond.fieldLink RX5 18 (TX5 2).1 (TX5 2).2.1 (TX5 2).2.2.1 ∈ tz := tz_in 329 (by decide +kernel) (by decide +kernel)
theorem fl_X6_9 : Cond.fieldLink RX6 9 (TX6 4).1 (TX6 4).2.1 (TX6 4).2.2.1 ∈ tz := tz_in 109 (by decide +kernel) (by decide +kernel)
theorem fl_X6_17 : Cond.fieldLink RX6 17 (TX6 5).1 (TX6 5).2.1 (TX6 5).2.2.1 ∈ tz := tz_in 112 (by decide +kernel) (by decide +kernel)
theorem fl_X6_20 : Cond.fieldLink RX6 20 (TX6 6).1 (TX6 6).2.1 (TX6 6).2.2.1 ∈ tz := tz_in 115 (by decide +kernel) (by decide +kernel)
theorem fl_X6_23 : Cond.fieldLink RX6 23 (TX6 7).1 (TX6 7).2.1 (TX6 7).2.2.1 ∈ tz := tz_in 118 (by decide +kernel) (by decide +kernel)
theorem fl_X6_26 : Cond.fieldLink RX6 26 (TX6 0).1 (TX6 0).2.1 (TX6 0).2.2.1 ∈ tz := tz_in 92 (by decide +kernel) (by decide +kernel)
theorem fl_X6_30 : Cond.fieldLink RX6 30 (TX6 1).1 (TX6 1).2.1 (TX6 1).2.2.1 ∈ tz := tz_in 96 (by decide +kernel) (by decide +kernel)
theorem fl_X6_33 : Cond.fieldLink RX6 33 (TX6 2).1 (TX6 2).2.1 (TX6 2).2.2.1 ∈ tz := tz_in 100 (by decide +kernel) (by decide +kernel)
theorem fl_X6_36 : Cond.fieldLink RX6 36 (TX6 3).1 (TX6 3).2.1 (TX6 3).2.2.1 ∈ tz := tz_in 104 (by decide +kernel) (by decide +kernel)
theorem fl_X6_39 : Cond.fieldLink RX6 39 (TX3 3).1 (TX3 3).2.1 (TX3 3).2.2.1 ∈ tz := tz_in 163 (by decide +kernel) (by decide +kernel)
theorem fl_X6_43 : Cond.fieldLink RX6 43 (TX3 4).1 (TX3 4).2.1 (TX3 4).2.2.1 ∈ tz := tz_in 166 (by decide +kernel) (by decide +kernel)
theorem fl_X7_11 : Cond.fieldLink RX7 11 (TX7 4).1 (TX7 4).2.1 (TX7 4).2.2.1 ∈ tz := tz_in 188 (by decide +kernel) (by decide +kernel)
theorem fl_X7_17 : Cond.fieldLink RX7 17 (TX7 0).1 (TX7 0).2.1 (TX7 0).2.2.1 ∈ tz := tz_in 179 (by decide +kernel) (by decide +kernel)
theorem fl_X7_22 : Cond.fieldLink RX7 22 (TX7 1).1 (TX7 1).2.1 (TX7 1).2.2.1 ∈ tz := tz_in 180 (by decide +kernel) (by decide +kernel)
theorem fl_X7_26 : Cond.fieldLink RX7 26 (TX6 1).1 (TX6 1).2.1 (TX6 1).2.2.1 ∈ tz := tz_in 97 (by decide +kernel) (by decide +kernel)
theorem fl_X7_31 : Cond.fieldLink RX7 31 (TX7 2).1 (TX7 2).2.1 (TX7 2).2.2.1 ∈ tz := tz_in 183 (by decide +kernel) (by decide +kernel)
theorem fl_X7_32 : Cond.fieldLink RX7 32 (TX7 3).1 (TX7 3).2.1 (TX7 3).2.2.1 ∈ tz := tz_in 186 (by decide +kernel) (by decide +kernel)
theorem fl_X7_35 : Cond.fieldLink RX7 35 (TX6 2).1 (TX6 2).2.1 (TX6 2).2.2.1 ∈ tz := tz_in 101 (by decide +kernel) (by decide +kernel)
theorem fl_X7_41 : Cond.fieldLink RX7 41 (TX3 1).1 (TX3 1).2.1 (TX3 1).2.2.1 ∈ tz := tz_in 154 (by decide +kernel) (by decide +kernel)
theorem fl_X7_48 : Cond.fieldLink RX7 48 (TX6 0).1 (TX6 0).2.1 (TX6 0).2.2.1 ∈ tz := tz_in 93 (by decide +kernel) (by decide +kernel)
theorem fl_X7_61 : Cond.fieldLink RX7 61 (TX3 2).1 (TX3 2).2.1 (TX3 2).2.2.1 ∈ tz := tz_in 158 (by decide +kernel) (by decide +kernel)
theorem fl_X7_64 : Cond.fieldLink RX7 64 (TX3 3).1 (TX3 3).2.1 (TX3 3).2.2.1 ∈ tz := tz_in 161 (by decide +kernel) (by decide +kernel)
theorem fl_X7_88 : Cond.fieldLink RX7 88 (TX6 3).1 (TX6 3).2.1 (TX6 3).2.2.1 ∈ tz := tz_in 108 (by decide +kernel) (by decide +kernel)
theorem fl_X7_111 : Cond.fieldLink RX7 111 (TX3 4).1 (TX3 4).2.1 (TX3 4).2.2.1 ∈ tz := tz_in 167 (by decide +kernel) (by decide +kernel)
theorem fl_X8_9 : Cond.fieldLink RX8 9 (TX8 0).1 (TX8 0).2.1 (TX8 0).2.2.1 ∈ tz := tz_in 64 (by decide +kernel) (by decide +kernel)
theorem fl_X8_15 : Cond.fieldLink RX8 15 (TX8 4).1 (TX8 4).2.1 (TX8 4).2.2.1 ∈ tz := tz_in 70 (by decide +kernel) (by decide +kernel)
theorem fl_X8_19 : Cond.fieldLink RX8 19 (TX8 1).1 (TX8 1).2.1 (TX8 1).2.2.1 ∈ tz := tz_in 65 (by decide +kernel) (by decide +kernel)
theorem fl_X8_27 : Cond.fieldLink RX8 27 (TX8 2).1 (TX8 2).2.1 (TX8 2).2.2.1 ∈ tz := tz_in 67 (by decide +kernel) (by decide +kernel)
theorem fl_X8_30 : Cond.fieldLink RX8 30 (TX8 3).1 (TX8 3).2.1 (TX8 3).2.2.1 ∈ tz := tz_in 68 (by decide +kernel) (by decide +kernel)
theorem fl_X8_69 : Cond.fieldLink RX8 69 (TX6 2).1 (TX6 2).2.1 (TX6 2).2.2.1 ∈ tz := tz_in 103 (by decide +kernel) (by decide +kernel)
theorem fl_X8_72 : Cond.fieldLink RX8 72 (TX6 3).1 (TX6 3).2.1 (TX6 3).2.2.1 ∈ tz := tz_in 107 (by decide +kernel) (by decide +kernel)
theorem fl_X8_79 : Cond.fieldLink RX8 79 (TX6 0).1 (TX6 0).2.1 (TX6 0).2.2.1 ∈ tz := tz_in 95 (by decide +kernel) (by decide +kernel)
theorem fl_X8_82 : Cond.fieldLink RX8 82 (TX6 1).1 (TX6 1).2.1 (TX6 1).2.2.1 ∈ tz := tz_in 99 (by decide +kernel) (by decide +kernel)
theorem fl_X8_85 : Cond.fieldLink RX8 85 (TX6 4).1 (TX6 4).2.1 (TX6 4).2.2.1 ∈ tz := tz_in 111 (by decide +kernel) (by decide +kernel)
theorem fl_X8_88 : Cond.fieldLink RX8 88 (TX6 5).1 (TX6 5).2.1 (TX6 5).2.2.1 ∈ tz := tz_in 114 (by decide +kernel) (by decide +kernel)
theorem fl_X8_92 : Cond.fieldLink RX8 92 (TX6 6).1 (TX6 6).2.1 (TX6 6).2.2.1 ∈ tz := tz_in 117 (by decide +kernel) (by decide +kernel)
theorem fl_X8_95 : Cond.fieldLink RX8 95 (TX6 7).1 (TX6 7).2.1 (TX6 7).2.2.1 ∈ tz := tz_in 120 (by decide +kernel) (by decide +kernel)
theorem fl_X9_12 : Cond.fieldLink RX9 12 (TX9 0).1 (TX9 0).2.1 (TX9 0).2.2.1 ∈ tz := tz_in 300 (by decide +kernel) (by decide +kernel)
theorem fl_X9_18 : Cond.fieldLink RX9 18 (TX7 4).1 (TX7 4).2.1 (TX7 4).2.2.1 ∈ tz := tz_in 189 (by decide +kernel) (by decide +kernel)
theorem fl_X9_28 : Cond.fieldLink RX9 28 (TX7 2).1 (TX7 2).2.1 (TX7 2).2.2.1 ∈ tz := tz_in 184 (by decide +kernel) (by decide +kernel)
theorem fl_X9_32 : Cond.fieldLink RX9 32 (TX9 1).1 (TX9 1).2.1 (TX9 1).2.2.1 ∈ tz := tz_in 302 (by decide +kernel) (by decide +kernel)
theorem fl_X9_33 : Cond.fieldLink RX9 33 (TX7 1).1 (TX7 1).2.1 (TX7 1).2.2.1 ∈ tz := tz_in 181 (by decide +kernel) (by decide +kernel)
theorem fl_X9_36 : Cond.fieldLink RX9 36 (TX9 2).1 (TX9 2).2.1 (TX9 2).2.2.1 ∈ tz := tz_in 303 (by decide +kernel) (by decide +kernel)
theorem fl_X9_44 : Cond.fieldLink RX9 44 (TX6 1).1 (TX6 1).2.1 (TX6 1).2.2.1 ∈ tz := tz_in 98 (by decide +kernel) (by decide +kernel)
theorem fl_X9_47 : Cond.fieldLink RX9 47 (TX9 3).1 (TX9 3).2.1 (TX9 3).2.2.1 ∈ tz := tz_in 304 (by decide +kernel) (by decide +kernel)
theorem fl_X9_50 : Cond.fieldLink RX9 50 (TX9 4).1 (TX9 4).2.1 (TX9 4).2.2.1 ∈ tz := tz_in 305 (by decide +kernel) (by decide +kernel)
theorem fl_X9_53 : Cond.fieldLink RX9 53 (TX9 5).1 (TX9 5).2.1 (TX9 5).2.2.1 ∈ tz := tz_in 306 (by decide +kernel) (by decide +kernel)
theorem fl_X11_7 : Cond.fieldLink RX11 7 (TX11 3).1 (TX11 3).2.1 (TX11 3).2.2.1 ∈ tz := tz_in 869 (by decide +kernel) (by decide +kernel)
theorem fl_X11_13 : Cond.fieldLink RX11 13 (TX11 4).1 (TX11 4).2.1 (TX11 4).2.2.1 ∈ tz := tz_in 870 (by decide +kernel) (by decide +kernel)
theorem fl_X11_16 : Cond.fieldLink RX11 16 (TX11 6).1 (TX11 6).2.1 (TX11 6).2.2.1 ∈ tz := tz_in 872 (by decide +kernel) (by decide +kernel)
theorem fl_X11_19 : Cond.fieldLink RX11 19 (TX11 7).1 (TX11 7).2.1 (TX11 7).2.2.1 ∈ tz := tz_in 873 (by decide +kernel) (by decide +kernel)
theorem fl_X11_22 : Cond.fieldLink RX11 22 (TX11 8).1 (TX11 8).2.1 (TX11 8).2.2.1 ∈ tz := tz_in 874 (by decide +kernel) (by decide +kernel)
theorem fl_X11_25 : Cond.fieldLink RX11 25 (TX11 11).1 (TX11 11).2.1 (TX11 11).2.2.1 ∈ tz := tz_in 877 (by decide +kernel) (by decide +kernel)
theorem fl_X11_28 : Cond.fieldLink RX11 28 (TX11 12).1 (TX11 12).2.1 (TX11 12).2.2.1 ∈ tz := tz_in 878 (by decide +kernel) (by decide +kernel)
theorem fl_X11_31 : Cond.fieldLink RX11 31 (TX11 13).1 (TX11 13).2.1 (TX11 13).2.2.1 ∈ tz := tz_in 879 (by decide +kernel) (by decide +kernel)
theorem fl_X11_34 : Cond.fieldLink RX11 34 (TX11 15).1 (TX11 15).2.1 (TX11 15).2.2.1 ∈ tz := tz_in 881 (by decide +kernel) (by decide +kernel)
theorem fl_X11_37 : Cond.fieldLink RX11 37 (TX11 16).1 (TX11 16).2.1 (TX11 16).2.2.1 ∈ tz := tz_in 882 (by decide +kernel) (by decide +kernel)
theorem fl_X11_40 : Cond.fieldLink RX11 40 (TX11 17).1 (TX11 17).2.1 (TX11 17).2.2.1 ∈ tz := tz_in 883 (by decide +kernel) (by decide +kernel)
theorem fl_X11_43 : Cond.fieldLink RX11 43 (TX11 19).1 (TX11 19).2.1 (TX11 19).2.2.1 ∈ tz := tz_in 885 (by decide +kernel) (by decide +kernel)
theorem fl_X11_47 : Cond.fieldLink RX11 47 (TX11 26).1 (TX11 26).2.1 (TX11 26).2.2.1 ∈ tz := tz_in 892 (by decide +kernel) (by decide +kernel)
theorem fl_X11_50 : Cond.fieldLink RX11 50 (TX11 27).1 (TX11 27).2.1 (TX11 27).2.2.1 ∈ tz := tz_in 893 (by decide +kernel) (by decide +kernel)
theorem fl_X11_53 : Cond.fieldLink RX11 53 (TX11 29).1 (TX11 29).2.1 (TX11 29).2.2.1 ∈ tz := tz_in 895 (by decide +kernel) (by decide +kernel)
theorem fl_X11_56 : Cond.fieldLink RX11 56 (TX11 30).1 (TX11 30).2.1 (TX11 30).2.2.1 ∈ tz := tz_in 896 (by decide +kernel) (by decide +kernel)
theorem fl_X11_59 : Cond.fieldLink RX11 59 (TX11 31).1 (TX11 31).2.1 (TX11 31).2.2.1 ∈ tz := tz_in 897 (by decide +kernel) (by decide +kernel)
theorem fl_X11_62 : Cond.fieldLink RX11 62 (TX11 32).1 (TX11 32).2.1 (TX11 32).2.2.1 ∈ tz := tz_in 898 (by decide +kernel) (by decide +kernel)
theorem fl_X11_65 : Cond.fieldLink RX11 65 (TX11 33).1 (TX11 33).2.1 (TX11 33).2.2.1 ∈ tz := tz_in 899 (by decide +kernel) (by decide +kernel)
theorem fl_X11_68 : Cond.fieldLink RX11 68 (TX11 35).1 (TX11 35).2.1 (TX11 35).2.2.1 ∈ tz := tz_in 901 (by decide +kernel) (by decide +kernel)
theorem fl_X11_71 : Cond.fieldLink RX11 71 (TX11 36).1 (TX11 36).2.1 (TX11 36).2.2.1 ∈ tz := tz_in 902 (by decide +kernel) (by decide +kernel)
theorem fl_X11_74 : Cond.fieldLink RX11 74 (TX11 37).1 (TX11 37).2.1 (TX11 37).2.2.1 ∈ tz := tz_in 903 (by decide +kernel) (by decide +kernel)
theorem fl_X11_77 : Cond.fieldLink RX11 77 (TX11 38).1 (TX11 38).2.1 (TX11 38).2.2.1 ∈ tz := tz_in 904 (by decide +kernel) (by decide +kernel)
theorem fl_X11_81 : Cond.fieldLink RX11 81 (TX11 39).1 (TX11 39).2.1 (TX11 39).2.2.1 ∈ tz := tz_in 905 (by decide +kernel) (by decide +kernel)
theorem fl_X11_84 : Cond.fieldLink RX11 84 (TX11 40).1 (TX11 40).2.1 (TX11 40).2.2.1 ∈ tz := tz_in 906 (by decide +kernel) (by decide +kernel)
theorem fl_X11_87 : Cond.fieldLink RX11 87 (TX11 41).1 (TX11 41).2.1 (TX11 41).2.2.1 ∈ tz := tz_in 907 (by decide +kernel) (by decide +kernel)
theorem fl_X11_90 : Cond.fieldLink RX11 90 (TX11 0).1 (TX11 0).2.1 (TX11 0).2.2.1 ∈ tz := tz_in 866 (by decide +kernel) (by decide +kernel)
theorem fl_X11_93 : Cond.fieldLink RX11 93 (TX11 2).1 (TX11 2).2.1 (TX11 2).2.2.1 ∈ tz := tz_in 868 (by decide +kernel) (by decide +kernel)
theorem fl_X11_100 : Cond.fieldLink RX11 100 (TX11 5).1 (TX11 5).2.1 (TX11 5).2.2.1 ∈ tz := tz_in 871 (by decide +kernel) (by decide +kernel)
theorem fl_X11_108 : Cond.fieldLink RX11 108 (TX11 18).1 (TX11 18).2.1 (TX11 18).2.2.1 ∈ tz := tz_in 884 (by decide +kernel) (by decide +kernel)
theorem fl_X11_112 : Cond.fieldLink RX11 112 (TX11 20).1 (TX11 20).2.1 (TX11 20).2.2.1 ∈ tz := tz_in 886 (by decide +kernel) (by decide +kernel)
theorem fl_X11_127 : Cond.fieldLink RX11 127 (TX11 22).1 (TX11 22).2.1 (TX11 22).2.2.1 ∈ tz := tz_in 888 (by decide +kernel) (by decide +kernel)
theorem fl_X11_130 : Cond.fieldLink RX11 130 (TX11 21).1 (TX11 21).2.1 (TX11 21).2.2.1 ∈ tz := tz_in 887 (by decide +kernel) (by decide +kernel)
theorem fl_X11_136 : Cond.fieldLink RX11 136 (TX11 23).1 (TX11 23).2.1 (TX11 23).2.2.1 ∈ tz := tz_in 889 (by decide +kernel) (by decide +kernel)
theorem fl_X11_139 : Cond.fieldLink RX11 139 (TX11 24).1 (TX11 24).2.1 (TX11 24).2.2.1 ∈ tz := tz_in 890 (by decide +kernel) (by decide +kernel)
theorem fl_X11_142 : Cond.fieldLink RX11 142 (TX11 25).1 (TX11 25).2.1 (TX11 25).2.2.1 ∈ tz := tz_in 891 (by decide +kernel) (by decide +kernel)
theorem fl_X11_145 : Cond.fieldLink RX11 145 (TX11 28).1 (TX11 28).2.1 (TX11 28).2.2.1 ∈ tz := tz_in 894 (by decide +kernel) (by decide +kernel)
theorem fl_X11_165 : Cond.fieldLink RX11 165 (TX11 1).1 (TX11 1).2.1 (TX11 1).2.2.1 ∈ tz := tz_in 867 (by decide +kernel) (by decide +kernel)
theorem fl_X11_174 : Cond.fieldLink RX11 174 (TX11 10).1 (TX11 10).2.1 (TX11 10).2.2.1 ∈ tz := tz_in 876 (by decide +kernel) (by decide +kernel)
theorem fl_X11_177 : Cond.fieldLink RX11 177 (TX11 14).1 (TX11 14).2.1 (TX11 14).2.2.1 ∈ tz := tz_in 880 (by decide +kernel) (by decide +kernel)
theorem fl_X11_180 : Cond.fieldLink RX11 180 (TX11 34).1 (TX11 34).2.1 (TX11 34).2.2.1 ∈ tz := tz_in 900 (by decide +kernel) (by decide +kernel)
theorem fl_X11_265 : Cond.fieldLink RX11 265 (TX11 9).1 (TX11 9).2.1 (TX11 9).2.2.1 ∈ tz := tz_in 875 (by decide +kernel) (by decide +kernel)
theorem kc_X10_81 : Cond.constant RX10 81 (-1000000002) ∈ tz := tz_in 375 (by decide +kernel) (by decide +kernel)
theorem kc_X10_86 : Cond.constant RX10 86 (-1000000004) ∈ tz := tz_in 376 (by decide +kernel) (by decide +kernel)
theorem kc_X10_149 : Cond.constant RX10 149 (-1000000001) ∈ tz := tz_in 504 (by decide +kernel) (by decide +kernel)
theorem kc_X10_201 : Cond.constant RX10 201 (-1000000003) ∈ tz := tz_in 539 (by decide +kernel) (by decide +kernel)
theorem kc_X10_307 : Cond.constant RX10 307 (99999) ∈ tz := tz_in 819 (by decide +kernel) (by decide +kernel)
theorem kc_X1_19 : Cond.constant RX1 19 (65536) ∈ tz := tz_in 636 (by decide +kernel) (by decide +kernel)
theorem kc_X7_68 : Cond.constant RX7 68 (999999) ∈ tz := tz_in 606 (by decide +kernel) (by decide +kernel)
theorem kc_X7_75 : Cond.constant RX7 75 (99999) ∈ tz := tz_in 616 (by decide +kernel) (by decide +kernel)
theorem kc_X11_107 : Cond.constant RX11 107 (-1000000002) ∈ tz := tz_in 1002 (by decide +kernel) (by decide +kernel)
theorem kc_X11_111 : Cond.constant RX11 111 (-1000000004) ∈ tz := tz_in 1003 (by decide +kernel) (by decide +kernel)
theorem kc_X11_193 : Cond.constant RX11 193 (1000000) ∈ tz := tz_in 1066 (by decide +kernel) (by decide +kernel)
theorem kc_X11_197 : Cond.constant RX11 197 (-1000000) ∈ tz := tz_in 1087 (by decide +kernel) (by decide +kernel)
theorem kc_X11_213 : Cond.constant RX11 213 (-1000000001) ∈ tz := tz_in 1096 (by decide +kernel) (by decide +kernel)
theorem kc_X11_236 : Cond.constant RX11 236 (-1000000003) ∈ tz := tz_in 1134 (by decide +kernel) (by decide +kernel)
theorem kc_X11_252 : Cond.constant RX11 252 (999999) ∈ tz := tz_in 1177 (by decide +kernel) (by decide +kernel)
theorem kc_X11_258 : Cond.constant RX11 258 (99999) ∈ tz := tz_in 1186 (by decide +kernel) (by decide +kernel)
theorem kc_X11_274 : Cond.constant RX11 274 (65536) ∈ tz := tz_in 1207 (by decide +kernel) (by decide +kernel)
theorem kc_J6_265 : Cond.constant RJ6 265 (1431655765) ∈ tz := tz_in 591 (by decide +kernel) (by decide +kernel)
theorem kc_J6_266 : Cond.constant RJ6 266 (858993459) ∈ tz := tz_in 592 (by decide +kernel) (by decide +kernel)
theorem kc_J6_267 : Cond.constant RJ6 267 (252645135) ∈ tz := tz_in 593 (by decide +kernel) (by decide +kernel)
theorem kl_X10_282 : Cond.constantLong RX10 282 (1000000000) ∈ tz := tz_in 774 (by decide +kernel) (by decide +kernel)
theorem kl_X10_284 : Cond.constantLong RX10 284 (100) ∈ tz := tz_in 775 (by decide +kernel) (by decide +kernel)
theorem kl_X1_13 : Cond.constantLong RX1 13 (1103515245) ∈ tz := tz_in 633 (by decide +kernel) (by decide +kernel)
theorem kl_X1_15 : Cond.constantLong RX1 15 (12345) ∈ tz := tz_in 634 (by decide +kernel) (by decide +kernel)
theorem kl_X1_17 : Cond.constantLong RX1 17 (2147483647) ∈ tz := tz_in 635 (by decide +kernel) (by decide +kernel)
theorem kl_X11_103 : Cond.constantLong RX11 103 (4) ∈ tz := tz_in 1112 (by decide +kernel) (by decide +kernel)
theorem kl_X11_105 : Cond.constantLong RX11 105 (255) ∈ tz := tz_in 998 (by decide +kernel) (by decide +kernel)
theorem kl_X11_119 : Cond.constantLong RX11 119 (48) ∈ tz := tz_in 1036 (by decide +kernel) (by decide +kernel)
theorem kl_X11_121 : Cond.constantLong RX11 121 (57) ∈ tz := tz_in 1037 (by decide +kernel) (by decide +kernel)
theorem kl_X11_234 : Cond.constantLong RX11 234 (60) ∈ tz := tz_in 1133 (by decide +kernel) (by decide +kernel)
theorem kl_X11_253 : Cond.constantLong RX11 253 (30) ∈ tz := tz_in 1172 (by decide +kernel) (by decide +kernel)
theorem kl_X11_263 : Cond.constantLong RX11 263 (9) ∈ tz := tz_in 1191 (by decide +kernel) (by decide +kernel)
theorem kl_X11_268 : Cond.constantLong RX11 268 (1103515245) ∈ tz := tz_in 1204 (by decide +kernel) (by decide +kernel)
theorem kl_X11_270 : Cond.constantLong RX11 270 (12345) ∈ tz := tz_in 1205 (by decide +kernel) (by decide +kernel)
theorem kl_X11_272 : Cond.constantLong RX11 272 (2147483648) ∈ tz := tz_in 1206 (by decide +kernel) (by decide +kernel)
theorem kl_X11_281 : Cond.constantLong RX11 281 (200) ∈ tz := tz_in 1216 (by decide +kernel) (by decide +kernel)
theorem kl_X11_286 : Cond.constantLong RX11 286 (2) ∈ tz := tz_in 1229 (by decide +kernel) (by decide +kernel)
theorem kl_X11_291 : Cond.constantLong RX11 291 (100) ∈ tz := tz_in 1250 (by decide +kernel) (by decide +kernel)
theorem kl_X11_293 : Cond.constantLong RX11 293 (1000000000) ∈ tz := tz_in 1251 (by decide +kernel) (by decide +kernel)
theorem kl_X11_295 : Cond.constantLong RX11 295 (99) ∈ tz := tz_in 1256 (by decide +kernel) (by decide +kernel)
theorem kl_X11_303 : Cond.constantLong RX11 303 (99999) ∈ tz := tz_in 1277 (by decide +kernel) (by decide +kernel)
theorem cd_X0_add : Cond.code yX0_add cX0_add 3 (some .int) ∈ tz := tz_in 823 (by decide +kernel) (by decide +kernel)
theorem im_X0_add : Cond.instanceMethod yX0_add ∈ tz := tz_in 821 (by decide +kernel) (by decide +kernel)
theorem se_X0_add : Cond.selects RX0 yX0_add yX0_add ∈ tz := tz_in 822 (by decide +kernel) (by decide +kernel)
theorem hc_X0_add : yX0_add.cls = RX0 ∧ yX0_add.cls ≠ "java/lang/invoke/MethodHandle" ∧ yX0_add.cls ≠ "java/lang/invoke/VarHandle" ∧ (parseMethodDescriptor yX0_add.desc).map (fun d => d.parameters.length) = some 2 := by decide +kernel
theorem cd_X0_firstWrong : Cond.code yX0_firstWrong cX0_firstWrong 3 (some .int) ∈ tz := tz_in 835 (by decide +kernel) (by decide +kernel)
theorem im_X0_firstWrong : Cond.instanceMethod yX0_firstWrong ∈ tz := tz_in 833 (by decide +kernel) (by decide +kernel)
theorem se_X0_firstWrong : Cond.selects RX0 yX0_firstWrong yX0_firstWrong ∈ tz := tz_in 834 (by decide +kernel) (by decide +kernel)
theorem hc_X0_firstWrong : yX0_firstWrong.cls = RX0 ∧ yX0_firstWrong.cls ≠ "java/lang/invoke/MethodHandle" ∧ yX0_firstWrong.cls ≠ "java/lang/invoke/VarHandle" ∧ (parseMethodDescriptor yX0_firstWrong.desc).map (fun d => d.parameters.length) = some 1 := by decide +kernel
theorem cd_X1_next : Cond.code yX1_next cX1_next 2 (some .int) ∈ tz := tz_in 632 (by decide +kernel) (by decide +kernel)
theorem im_X1_next : Cond.instanceMethod yX1_next ∈ tz := tz_in 630 (by decide +kernel) (by decide +kernel)
theorem se_X1_next : Cond.selects RX1 yX1_next yX1_next ∈ tz := tz_in 631 (by decide +kernel) (by decide +kernel)
theorem hc_X1_next : yX1_next.cls = RX1 ∧ yX1_next.cls ≠ "java/lang/invoke/MethodHandle" ∧ yX1_next.cls ≠ "java/lang/invoke/VarHandle" ∧ (parseMethodDescriptor yX1_next.desc).map (fun d => d.parameters.length) = some 1 := by decide +kernel
theorem cd_X2_add : Cond.code yX2_add cX2_add 4 (some .int) ∈ tz := tz_in 783 (by decide +kernel) (by decide +kernel)
theorem im_X2_add : Cond.instanceMethod yX2_add ∈ tz := tz_in 781 (by decide +kernel) (by decide +kernel)
theorem se_X2_add : Cond.selects RX2 yX2_add yX2_add ∈ tz := tz_in 782 (by decide +kernel) (by decide +kernel)
theorem hc_X2_add : yX2_add.cls = RX2 ∧ yX2_add.cls ≠ "java/lang/invoke/MethodHandle" ∧ yX2_add.cls ≠ "java/lang/invoke/VarHandle" ∧ (parseMethodDescriptor yX2_add.desc).map (fun d => d.parameters.length) = some 3 := by decide +kernel
theorem cd_X2_agree : Cond.code yX2_agree cX2_agree 5 (some .boolean) ∈ tz := tz_in 796 (by decide +kernel) (by decide +kernel)
theorem im_X2_agree : Cond.instanceMethod yX2_agree ∈ tz := tz_in 794 (by decide +kernel) (by decide +kernel)
theorem se_X2_agree : Cond.selects RX2 yX2_agree yX2_agree ∈ tz := tz_in 795 (by decide +kernel) (by decide +kernel)
theorem hc_X2_agree : yX2_agree.cls = RX2 ∧ yX2_agree.cls ≠ "java/lang/invoke/MethodHandle" ∧ yX2_agree.cls ≠ "java/lang/invoke/VarHandle" ∧ (parseMethodDescriptor yX2_agree.desc).map (fun d => d.parameters.length) = some 3 := by decide +kernel
theorem cd_X2_clearParts : Cond.code yX2_clearParts cX2_clearParts 2 none ∈ tz := tz_in 805 (by decide +kernel) (by decide +kernel)
theorem im_X2_clearParts : Cond.instanceMethod yX2_clearParts ∈ tz := tz_in 803 (by decide +kernel) (by decide +kernel)
theorem se_X2_clearParts : Cond.selects RX2 yX2_clearParts yX2_clearParts ∈ tz := tz_in 804 (by decide +kernel) (by decide +kernel)
theorem hc_X2_clearParts : yX2_clearParts.cls = RX2 ∧ yX2_clearParts.cls ≠ "java/lang/invoke/MethodHandle" ∧ yX2_clearParts.cls ≠ "java/lang/invoke/VarHandle" ∧ (parseMethodDescriptor yX2_clearParts.desc).map (fun d => d.parameters.length) = some 0 := by decide +kernel
theorem cd_X2_part : Cond.code yX2_part cX2_part 5 none ∈ tz := tz_in 809 (by decide +kernel) (by decide +kernel)
theorem im_X2_part : Cond.instanceMethod yX2_part ∈ tz := tz_in 807 (by decide +kernel) (by decide +kernel)
theorem se_X2_part : Cond.selects RX2 yX2_part yX2_part ∈ tz := tz_in 808 (by decide +kernel) (by decide +kernel)
theorem hc_X2_part : yX2_part.cls = RX2 ∧ yX2_part.cls ≠ "java/lang/invoke/MethodHandle" ∧ yX2_part.cls ≠ "java/lang/invoke/VarHandle" ∧ (parseMethodDescriptor yX2_part.desc).map (fun d => d.parameters.length) = some 2 := by decide +kernel
theorem cd_X2_bestParting : Cond.code yX2_bestParting cX2_bestParting 5 (some .int) ∈ tz := tz_in 814 (by decide +kernel) (by decide +kernel)
theorem im_X2_bestParting : Cond.instanceMethod yX2_bestParting ∈ tz := tz_in 812 (by decide +kernel) (by decide +kernel)
theorem se_X2_bestParting : Cond.selects RX2 yX2_bestParting yX2_bestParting ∈ tz := tz_in 813 (by decide +kernel) (by decide +kernel)
theorem hc_X2_bestParting : yX2_bestParting.cls = RX2 ∧ yX2_bestParting.cls ≠ "java/lang/invoke/MethodHandle" ∧ yX2_bestParting.cls ≠ "java/lang/invoke/VarHandle" ∧ (parseMethodDescriptor yX2_bestParting.desc).map (fun d => d.parameters.length) = some 1 := by decide +kernel
theorem cd_X3_begin : Cond.code yX3_begin cX3_begin 4 none ∈ tz := tz_in 447 (by decide +kernel) (by decide +kernel)
theorem im_X3_begin : Cond.instanceMethod yX3_begin ∈ tz := tz_in 445 (by decide +kernel) (by decide +kernel)
theorem se_X3_begin : Cond.selects RX3 yX3_begin yX3_begin ∈ tz := tz_in 446 (by decide +kernel) (by decide +kernel)
theorem hc_X3_begin : yX3_begin.cls = RX3 ∧ yX3_begin.cls ≠ "java/lang/invoke/MethodHandle" ∧ yX3_begin.cls ≠ "java/lang/invoke/VarHandle" ∧ (parseMethodDescriptor yX3_begin.desc).map (fun d => d.parameters.length) = some 2 := by decide +kernel
theorem cd_X3_copySkin : Cond.code yX3_copySkin cX3_copySkin 3 none ∈ tz := tz_in 671 (by decide +kernel) (by decide +kernel)
theorem im_X3_copySkin : Cond.instanceMethod yX3_copySkin ∈ tz := tz_in 669 (by decide +kernel) (by decide +kernel)
theorem se_X3_copySkin : Cond.selects RX3 yX3_copySkin yX3_copySkin ∈ tz := tz_in 670 (by decide +kernel) (by decide +kernel)
theorem hc_X3_copySkin : yX3_copySkin.cls = RX3 ∧ yX3_copySkin.cls ≠ "java/lang/invoke/MethodHandle" ∧ yX3_copySkin.cls ≠ "java/lang/invoke/VarHandle" ∧ (parseMethodDescriptor yX3_copySkin.desc).map (fun d => d.parameters.length) = some 1 := by decide +kernel
theorem cd_X3_tan : Cond.code yX3_tan cX3_tan 3 none ∈ tz := tz_in 562 (by decide +kernel) (by decide +kernel)
theorem im_X3_tan : Cond.instanceMethod yX3_tan ∈ tz := tz_in 560 (by decide +kernel) (by decide +kernel)
theorem se_X3_tan : Cond.selects RX3 yX3_tan yX3_tan ∈ tz := tz_in 561 (by decide +kernel) (by decide +kernel)
theorem hc_X3_tan : yX3_tan.cls = RX3 ∧ yX3_tan.cls ≠ "java/lang/invoke/MethodHandle" ∧ yX3_tan.cls ≠ "java/lang/invoke/VarHandle" ∧ (parseMethodDescriptor yX3_tan.desc).map (fun d => d.parameters.length) = some 2 := by decide +kernel
theorem cd_X3_thickenAll : Cond.code yX3_thickenAll cX3_thickenAll 4 none ∈ tz := tz_in 566 (by decide +kernel) (by decide +kernel)
theorem im_X3_thickenAll : Cond.instanceMethod yX3_thickenAll ∈ tz := tz_in 564 (by decide +kernel) (by decide +kernel)
theorem se_X3_thickenAll : Cond.selects RX3 yX3_thickenAll yX3_thickenAll ∈ tz := tz_in 565 (by decide +kernel) (by decide +kernel)
theorem hc_X3_thickenAll : yX3_thickenAll.cls = RX3 ∧ yX3_thickenAll.cls ≠ "java/lang/invoke/MethodHandle" ∧ yX3_thickenAll.cls ≠ "java/lang/invoke/VarHandle" ∧ (parseMethodDescriptor yX3_thickenAll.desc).map (fun d => d.parameters.length) = some 2 := by decide +kernel
theorem cd_X3_thicken : Cond.code yX3_thicken cX3_thicken 3 none ∈ tz := tz_in 570 (by decide +kernel) (by decide +kernel)
theorem im_X3_thicken : Cond.instanceMethod yX3_thicken ∈ tz := tz_in 568 (by decide +kernel) (by decide +kernel)
theorem se_X3_thicken : Cond.selects RX3 yX3_thicken yX3_thicken ∈ tz := tz_in 569 (by decide +kernel) (by decide +kernel)
theorem hc_X3_thicken : yX3_thicken.cls = RX3 ∧ yX3_thicken.cls ≠ "java/lang/invoke/MethodHandle" ∧ yX3_thicken.cls ≠ "java/lang/invoke/VarHandle" ∧ (parseMethodDescriptor yX3_thicken.desc).map (fun d => d.parameters.length) = some 2 := by decide +kernel
theorem cd_X3_thinnestPlace : Cond.code yX3_thinnestPlace cX3_thinnestPlace 3 (some .int) ∈ tz := tz_in 578 (by decide +kernel) (by decide +kernel)
theorem im_X3_thinnestPlace : Cond.instanceMethod yX3_thinnestPlace ∈ tz := tz_in 576 (by decide +kernel) (by decide +kernel)
theorem se_X3_thinnestPlace : Cond.selects RX3 yX3_thinnestPlace yX3_thinnestPlace ∈ tz := tz_in 577 (by decide +kernel) (by decide +kernel)
theorem hc_X3_thinnestPlace : yX3_thinnestPlace.cls = RX3 ∧ yX3_thinnestPlace.cls ≠ "java/lang/invoke/MethodHandle" ∧ yX3_thinnestPlace.cls ≠ "java/lang/invoke/VarHandle" ∧ (parseMethodDescriptor yX3_thinnestPlace.desc).map (fun d => d.parameters.length) = some 0 := by decide +kernel
theorem cd_X3_isOver : Cond.code yX3_isOver cX3_isOver 4 (some .boolean) ∈ tz := tz_in 766 (by decide +kernel) (by decide +kernel)
theorem im_X3_isOver : Cond.instanceMethod yX3_isOver ∈ tz := tz_in 764 (by decide +kernel) (by decide +kernel)
theorem se_X3_isOver : Cond.selects RX3 yX3_isOver yX3_isOver ∈ tz := tz_in 765 (by decide +kernel) (by decide +kernel)
theorem hc_X3_isOver : yX3_isOver.cls = RX3 ∧ yX3_isOver.cls ≠ "java/lang/invoke/MethodHandle" ∧ yX3_isOver.cls ≠ "java/lang/invoke/VarHandle" ∧ (parseMethodDescriptor yX3_isOver.desc).map (fun d => d.parameters.length) = some 1 := by decide +kernel
theorem cd_X3_saveTo : Cond.code yX3_saveTo cX3_saveTo 4 none ∈ tz := tz_in 551 (by decide +kernel) (by decide +kernel)
theorem im_X3_saveTo : Cond.instanceMethod yX3_saveTo ∈ tz := tz_in 549 (by decide +kernel) (by decide +kernel)
theorem se_X3_saveTo : Cond.selects RX3 yX3_saveTo yX3_saveTo ∈ tz := tz_in 550 (by decide +kernel) (by decide +kernel)
theorem hc_X3_saveTo : yX3_saveTo.cls = RX3 ∧ yX3_saveTo.cls ≠ "java/lang/invoke/MethodHandle" ∧ yX3_saveTo.cls ≠ "java/lang/invoke/VarHandle" ∧ (parseMethodDescriptor yX3_saveTo.desc).map (fun d => d.parameters.length) = some 2 := by decide +kernel
theorem cd_X3_loadFrom : Cond.code yX3_loadFrom cX3_loadFrom 4 none ∈ tz := tz_in 659 (by decide +kernel) (by decide +kernel)
theorem im_X3_loadFrom : Cond.instanceMethod yX3_loadFrom ∈ tz := tz_in 657 (by decide +kernel) (by decide +kernel)
theorem se_X3_loadFrom : Cond.selects RX3 yX3_loadFrom yX3_loadFrom ∈ tz := tz_in 658 (by decide +kernel) (by decide +kernel)
theorem hc_X3_loadFrom : yX3_loadFrom.cls = RX3 ∧ yX3_loadFrom.cls ≠ "java/lang/invoke/MethodHandle" ∧ yX3_loadFrom.cls ≠ "java/lang/invoke/VarHandle" ∧ (parseMethodDescriptor yX3_loadFrom.desc).map (fun d => d.parameters.length) = some 2 := by decide +kernel
theorem cd_X4_push : Cond.code yX4_push cX4_push 2 none ∈ tz := tz_in 543 (by decide +kernel) (by decide +kernel)
theorem im_X4_push : Cond.instanceMethod yX4_push ∈ tz := tz_in 541 (by decide +kernel) (by decide +kernel)
theorem se_X4_push : Cond.selects RX4 yX4_push yX4_push ∈ tz := tz_in 542 (by decide +kernel) (by decide +kernel)
theorem hc_X4_push : yX4_push.cls = RX4 ∧ yX4_push.cls ≠ "java/lang/invoke/MethodHandle" ∧ yX4_push.cls ≠ "java/lang/invoke/VarHandle" ∧ (parseMethodDescriptor yX4_push.desc).map (fun d => d.parameters.length) = some 1 := by decide +kernel
theorem cd_X4_pop : Cond.code yX4_pop cX4_pop 2 none ∈ tz := tz_in 651 (by decide +kernel) (by decide +kernel)
theorem im_X4_pop : Cond.instanceMethod yX4_pop ∈ tz := tz_in 649 (by decide +kernel) (by decide +kernel)
theorem se_X4_pop : Cond.selects RX4 yX4_pop yX4_pop ∈ tz := tz_in 650 (by decide +kernel) (by decide +kernel)
theorem hc_X4_pop : yX4_pop.cls = RX4 ∧ yX4_pop.cls ≠ "java/lang/invoke/MethodHandle" ∧ yX4_pop.cls ≠ "java/lang/invoke/VarHandle" ∧ (parseMethodDescriptor yX4_pop.desc).map (fun d => d.parameters.length) = some 1 := by decide +kernel
theorem cd_X4_hasImage : Cond.code yX4_hasImage cX4_hasImage 2 (some .boolean) ∈ tz := tz_in 855 (by decide +kernel) (by decide +kernel)
theorem im_X4_hasImage : Cond.instanceMethod yX4_hasImage ∈ tz := tz_in 853 (by decide +kernel) (by decide +kernel)
theorem se_X4_hasImage : Cond.selects RX4 yX4_hasImage yX4_hasImage ∈ tz := tz_in 854 (by decide +kernel) (by decide +kernel)
theorem hc_X4_hasImage : yX4_hasImage.cls = RX4 ∧ yX4_hasImage.cls ≠ "java/lang/invoke/MethodHandle" ∧ yX4_hasImage.cls ≠ "java/lang/invoke/VarHandle" ∧ (parseMethodDescriptor yX4_hasImage.desc).map (fun d => d.parameters.length) = some 1 := by decide +kernel
theorem cd_X4_keepImage : Cond.code yX4_keepImage cX4_keepImage 4 none ∈ tz := tz_in 847 (by decide +kernel) (by decide +kernel)
theorem im_X4_keepImage : Cond.instanceMethod yX4_keepImage ∈ tz := tz_in 845 (by decide +kernel) (by decide +kernel)
theorem se_X4_keepImage : Cond.selects RX4 yX4_keepImage yX4_keepImage ∈ tz := tz_in 846 (by decide +kernel) (by decide +kernel)
theorem hc_X4_keepImage : yX4_keepImage.cls = RX4 ∧ yX4_keepImage.cls ≠ "java/lang/invoke/MethodHandle" ∧ yX4_keepImage.cls ≠ "java/lang/invoke/VarHandle" ∧ (parseMethodDescriptor yX4_keepImage.desc).map (fun d => d.parameters.length) = some 3 := by decide +kernel
theorem cd_X4_loadImage : Cond.code yX4_loadImage cX4_loadImage 4 none ∈ tz := tz_in 859 (by decide +kernel) (by decide +kernel)
theorem im_X4_loadImage : Cond.instanceMethod yX4_loadImage ∈ tz := tz_in 857 (by decide +kernel) (by decide +kernel)
theorem se_X4_loadImage : Cond.selects RX4 yX4_loadImage yX4_loadImage ∈ tz := tz_in 858 (by decide +kernel) (by decide +kernel)
theorem hc_X4_loadImage : yX4_loadImage.cls = RX4 ∧ yX4_loadImage.cls ≠ "java/lang/invoke/MethodHandle" ∧ yX4_loadImage.cls ≠ "java/lang/invoke/VarHandle" ∧ (parseMethodDescriptor yX4_loadImage.desc).map (fun d => d.parameters.length) = some 3 := by decide +kernel
theorem cd_X5_fill : Cond.code yX5_fill cX5_fill 4 none ∈ tz := tz_in 743 (by decide +kernel) (by decide +kernel)
theorem im_X5_fill : Cond.instanceMethod yX5_fill ∈ tz := tz_in 741 (by decide +kernel) (by decide +kernel)
theorem se_X5_fill : Cond.selects RX5 yX5_fill yX5_fill ∈ tz := tz_in 742 (by decide +kernel) (by decide +kernel)
theorem hc_X5_fill : yX5_fill.cls = RX5 ∧ yX5_fill.cls ≠ "java/lang/invoke/MethodHandle" ∧ yX5_fill.cls ≠ "java/lang/invoke/VarHandle" ∧ (parseMethodDescriptor yX5_fill.desc).map (fun d => d.parameters.length) = some 2 := by decide +kernel
theorem cd_X5_addMonths : Cond.code yX5_addMonths cX5_addMonths 4 none ∈ tz := tz_in 747 (by decide +kernel) (by decide +kernel)
theorem im_X5_addMonths : Cond.instanceMethod yX5_addMonths ∈ tz := tz_in 745 (by decide +kernel) (by decide +kernel)
theorem se_X5_addMonths : Cond.selects RX5 yX5_addMonths yX5_addMonths ∈ tz := tz_in 746 (by decide +kernel) (by decide +kernel)
theorem hc_X5_addMonths : yX5_addMonths.cls = RX5 ∧ yX5_addMonths.cls ≠ "java/lang/invoke/MethodHandle" ∧ yX5_addMonths.cls ≠ "java/lang/invoke/VarHandle" ∧ (parseMethodDescriptor yX5_addMonths.desc).map (fun d => d.parameters.length) = some 1 := by decide +kernel
theorem cd_X5_fewestPits : Cond.code yX5_fewestPits cX5_fewestPits 5 (some .int) ∈ tz := tz_in 751 (by decide +kernel) (by decide +kernel)
theorem im_X5_fewestPits : Cond.instanceMethod yX5_fewestPits ∈ tz := tz_in 749 (by decide +kernel) (by decide +kernel)
theorem se_X5_fewestPits : Cond.selects RX5 yX5_fewestPits yX5_fewestPits ∈ tz := tz_in 750 (by decide +kernel) (by decide +kernel)
theorem hc_X5_fewestPits : yX5_fewestPits.cls = RX5 ∧ yX5_fewestPits.cls ≠ "java/lang/invoke/MethodHandle" ∧ yX5_fewestPits.cls ≠ "java/lang/invoke/VarHandle" ∧ (parseMethodDescriptor yX5_fewestPits.desc).map (fun d => d.parameters.length) = some 2 := by decide +kernel
theorem cd_X5_mostWithin : Cond.code yX5_mostWithin cX5_mostWithin 5 (some .int) ∈ tz := tz_in 756 (by decide +kernel) (by decide +kernel)
theorem im_X5_mostWithin : Cond.instanceMethod yX5_mostWithin ∈ tz := tz_in 754 (by decide +kernel) (by decide +kernel)
theorem se_X5_mostWithin : Cond.selects RX5 yX5_mostWithin yX5_mostWithin ∈ tz := tz_in 755 (by decide +kernel) (by decide +kernel)
theorem hc_X5_mostWithin : yX5_mostWithin.cls = RX5 ∧ yX5_mostWithin.cls ≠ "java/lang/invoke/MethodHandle" ∧ yX5_mostWithin.cls ≠ "java/lang/invoke/VarHandle" ∧ (parseMethodDescriptor yX5_mostWithin.desc).map (fun d => d.parameters.length) = some 2 := by decide +kernel
theorem cd_X6_clear : Cond.code yX6_clear cX6_clear 1 none ∈ tz := tz_in 392 (by decide +kernel) (by decide +kernel)
theorem im_X6_clear : Cond.instanceMethod yX6_clear ∈ tz := tz_in 390 (by decide +kernel) (by decide +kernel)
theorem se_X6_clear : Cond.selects RX6 yX6_clear yX6_clear ∈ tz := tz_in 391 (by decide +kernel) (by decide +kernel)
theorem hc_X6_clear : yX6_clear.cls = RX6 ∧ yX6_clear.cls ≠ "java/lang/invoke/MethodHandle" ∧ yX6_clear.cls ≠ "java/lang/invoke/VarHandle" ∧ (parseMethodDescriptor yX6_clear.desc).map (fun d => d.parameters.length) = some 0 := by decide +kernel
theorem cd_X6_isNone : Cond.code yX6_isNone cX6_isNone 1 (some .boolean) ∈ tz := tz_in 411 (by decide +kernel) (by decide +kernel)
theorem im_X6_isNone : Cond.instanceMethod yX6_isNone ∈ tz := tz_in 409 (by decide +kernel) (by decide +kernel)
theorem se_X6_isNone : Cond.selects RX6 yX6_isNone yX6_isNone ∈ tz := tz_in 410 (by decide +kernel) (by decide +kernel)
theorem hc_X6_isNone : yX6_isNone.cls = RX6 ∧ yX6_isNone.cls ≠ "java/lang/invoke/MethodHandle" ∧ yX6_isNone.cls ≠ "java/lang/invoke/VarHandle" ∧ (parseMethodDescriptor yX6_isNone.desc).map (fun d => d.parameters.length) = some 0 := by decide +kernel
theorem cd_X6_hasMan : Cond.code yX6_hasMan cX6_hasMan 2 (some .boolean) ∈ tz := tz_in 503 (by decide +kernel) (by decide +kernel)
theorem im_X6_hasMan : Cond.instanceMethod yX6_hasMan ∈ tz := tz_in 501 (by decide +kernel) (by decide +kernel)
theorem se_X6_hasMan : Cond.selects RX6 yX6_hasMan yX6_hasMan ∈ tz := tz_in 502 (by decide +kernel) (by decide +kernel)
theorem hc_X6_hasMan : yX6_hasMan.cls = RX6 ∧ yX6_hasMan.cls ≠ "java/lang/invoke/MethodHandle" ∧ yX6_hasMan.cls ≠ "java/lang/invoke/VarHandle" ∧ (parseMethodDescriptor yX6_hasMan.desc).map (fun d => d.parameters.length) = some 1 := by decide +kernel
theorem cd_X6_hasSaying : Cond.code yX6_hasSaying cX6_hasSaying 2 (some .boolean) ∈ tz := tz_in 524 (by decide +kernel) (by decide +kernel)
theorem im_X6_hasSaying : Cond.instanceMethod yX6_hasSaying ∈ tz := tz_in 522 (by decide +kernel) (by decide +kernel)
theorem se_X6_hasSaying : Cond.selects RX6 yX6_hasSaying yX6_hasSaying ∈ tz := tz_in 523 (by decide +kernel) (by decide +kernel)
theorem hc_X6_hasSaying : yX6_hasSaying.cls = RX6 ∧ yX6_hasSaying.cls ≠ "java/lang/invoke/MethodHandle" ∧ yX6_hasSaying.cls ≠ "java/lang/invoke/VarHandle" ∧ (parseMethodDescriptor yX6_hasSaying.desc).map (fun d => d.parameters.length) = some 1 := by decide +kernel
theorem cd_X6_hasSet : Cond.code yX6_hasSet cX6_hasSet 2 (some .boolean) ∈ tz := tz_in 706 (by decide +kernel) (by decide +kernel)
theorem im_X6_hasSet : Cond.instanceMethod yX6_hasSet ∈ tz := tz_in 704 (by decide +kernel) (by decide +kernel)
theorem se_X6_hasSet : Cond.selects RX6 yX6_hasSet yX6_hasSet ∈ tz := tz_in 705 (by decide +kernel) (by decide +kernel)
theorem hc_X6_hasSet : yX6_hasSet.cls = RX6 ∧ yX6_hasSet.cls ≠ "java/lang/invoke/MethodHandle" ∧ yX6_hasSet.cls ≠ "java/lang/invoke/VarHandle" ∧ (parseMethodDescriptor yX6_hasSet.desc).map (fun d => d.parameters.length) = some 1 := by decide +kernel
theorem cd_X6_everySaying : Cond.code yX6_everySaying cX6_everySaying 1 (some .int) ∈ tz := tz_in 739 (by decide +kernel) (by decide +kernel)
theorem im_X6_everySaying : Cond.instanceMethod yX6_everySaying ∈ tz := tz_in 737 (by decide +kernel) (by decide +kernel)
theorem se_X6_everySaying : Cond.selects RX6 yX6_everySaying yX6_everySaying ∈ tz := tz_in 738 (by decide +kernel) (by decide +kernel)
theorem hc_X6_everySaying : yX6_everySaying.cls = RX6 ∧ yX6_everySaying.cls ≠ "java/lang/invoke/MethodHandle" ∧ yX6_everySaying.cls ≠ "java/lang/invoke/VarHandle" ∧ (parseMethodDescriptor yX6_everySaying.desc).map (fun d => d.parameters.length) = some 0 := by decide +kernel
theorem cd_X6_pain : Cond.code yX6_pain cX6_pain 4 (some .int) ∈ tz := tz_in 475 (by decide +kernel) (by decide +kernel)
theorem im_X6_pain : Cond.instanceMethod yX6_pain ∈ tz := tz_in 473 (by decide +kernel) (by decide +kernel)
theorem se_X6_pain : Cond.selects RX6 yX6_pain yX6_pain ∈ tz := tz_in 474 (by decide +kernel) (by decide +kernel)
theorem hc_X6_pain : yX6_pain.cls = RX6 ∧ yX6_pain.cls ≠ "java/lang/invoke/MethodHandle" ∧ yX6_pain.cls ≠ "java/lang/invoke/VarHandle" ∧ (parseMethodDescriptor yX6_pain.desc).map (fun d => d.parameters.length) = some 2 := by decide +kernel
theorem cd_X6_setBorne : Cond.code yX6_setBorne cX6_setBorne 4 (some .int) ∈ tz := tz_in 508 (by decide +kernel) (by decide +kernel)
theorem im_X6_setBorne : Cond.instanceMethod yX6_setBorne ∈ tz := tz_in 506 (by decide +kernel) (by decide +kernel)
theorem se_X6_setBorne : Cond.selects RX6 yX6_setBorne yX6_setBorne ∈ tz := tz_in 507 (by decide +kernel) (by decide +kernel)
theorem hc_X6_setBorne : yX6_setBorne.cls = RX6 ∧ yX6_setBorne.cls ≠ "java/lang/invoke/MethodHandle" ∧ yX6_setBorne.cls ≠ "java/lang/invoke/VarHandle" ∧ (parseMethodDescriptor yX6_setBorne.desc).map (fun d => d.parameters.length) = some 1 := by decide +kernel
theorem cd_X6_setFelt : Cond.code yX6_setFelt cX6_setFelt 4 (some .int) ∈ tz := tz_in 512 (by decide +kernel) (by decide +kernel)
theorem im_X6_setFelt : Cond.instanceMethod yX6_setFelt ∈ tz := tz_in 510 (by decide +kernel) (by decide +kernel)
theorem se_X6_setFelt : Cond.selects RX6 yX6_setFelt yX6_setFelt ∈ tz := tz_in 511 (by decide +kernel) (by decide +kernel)
theorem hc_X6_setFelt : yX6_setFelt.cls = RX6 ∧ yX6_setFelt.cls ≠ "java/lang/invoke/MethodHandle" ∧ yX6_setFelt.cls ≠ "java/lang/invoke/VarHandle" ∧ (parseMethodDescriptor yX6_setFelt.desc).map (fun d => d.parameters.length) = some 1 := by decide +kernel
theorem cd_X6_bearsAll : Cond.code yX6_bearsAll cX6_bearsAll 4 (some .boolean) ∈ tz := tz_in 692 (by decide +kernel) (by decide +kernel)
theorem im_X6_bearsAll : Cond.instanceMethod yX6_bearsAll ∈ tz := tz_in 690 (by decide +kernel) (by decide +kernel)
theorem se_X6_bearsAll : Cond.selects RX6 yX6_bearsAll yX6_bearsAll ∈ tz := tz_in 691 (by decide +kernel) (by decide +kernel)
theorem hc_X6_bearsAll : yX6_bearsAll.cls = RX6 ∧ yX6_bearsAll.cls ≠ "java/lang/invoke/MethodHandle" ∧ yX6_bearsAll.cls ≠ "java/lang/invoke/VarHandle" ∧ (parseMethodDescriptor yX6_bearsAll.desc).map (fun d => d.parameters.length) = some 2 := by decide +kernel
theorem cd_X6_feelsAll : Cond.code yX6_feelsAll cX6_feelsAll 4 (some .boolean) ∈ tz := tz_in 711 (by decide +kernel) (by decide +kernel)
theorem im_X6_feelsAll : Cond.instanceMethod yX6_feelsAll ∈ tz := tz_in 709 (by decide +kernel) (by decide +kernel)
theorem se_X6_feelsAll : Cond.selects RX6 yX6_feelsAll yX6_feelsAll ∈ tz := tz_in 710 (by decide +kernel) (by decide +kernel)
theorem hc_X6_feelsAll : yX6_feelsAll.cls = RX6 ∧ yX6_feelsAll.cls ≠ "java/lang/invoke/MethodHandle" ∧ yX6_feelsAll.cls ≠ "java/lang/invoke/VarHandle" ∧ (parseMethodDescriptor yX6_feelsAll.desc).map (fun d => d.parameters.length) = some 2 := by decide +kernel
theorem cd_X6_wholePain : Cond.code yX6_wholePain cX6_wholePain 4 (some .int) ∈ tz := tz_in 471 (by decide +kernel) (by decide +kernel)
theorem im_X6_wholePain : Cond.instanceMethod yX6_wholePain ∈ tz := tz_in 469 (by decide +kernel) (by decide +kernel)
theorem se_X6_wholePain : Cond.selects RX6 yX6_wholePain yX6_wholePain ∈ tz := tz_in 470 (by decide +kernel) (by decide +kernel)
theorem hc_X6_wholePain : yX6_wholePain.cls = RX6 ∧ yX6_wholePain.cls ≠ "java/lang/invoke/MethodHandle" ∧ yX6_wholePain.cls ≠ "java/lang/invoke/VarHandle" ∧ (parseMethodDescriptor yX6_wholePain.desc).map (fun d => d.parameters.length) = some 1 := by decide +kernel
theorem cd_X6_leastScraping : Cond.code yX6_leastScraping cX6_leastScraping 6 (some .int) ∈ tz := tz_in 727 (by decide +kernel) (by decide +kernel)
theorem im_X6_leastScraping : Cond.instanceMethod yX6_leastScraping ∈ tz := tz_in 725 (by decide +kernel) (by decide +kernel)
theorem se_X6_leastScraping : Cond.selects RX6 yX6_leastScraping yX6_leastScraping ∈ tz := tz_in 726 (by decide +kernel) (by decide +kernel)
theorem hc_X6_leastScraping : yX6_leastScraping.cls = RX6 ∧ yX6_leastScraping.cls ≠ "java/lang/invoke/MethodHandle" ∧ yX6_leastScraping.cls ≠ "java/lang/invoke/VarHandle" ∧ (parseMethodDescriptor yX6_leastScraping.desc).map (fun d => d.parameters.length) = some 2 := by decide +kernel
theorem cd_X6_scrapingAt : Cond.code yX6_scrapingAt cX6_scrapingAt 6 (some .int) ∈ tz := tz_in 731 (by decide +kernel) (by decide +kernel)
theorem im_X6_scrapingAt : Cond.instanceMethod yX6_scrapingAt ∈ tz := tz_in 729 (by decide +kernel) (by decide +kernel)
theorem se_X6_scrapingAt : Cond.selects RX6 yX6_scrapingAt yX6_scrapingAt ∈ tz := tz_in 730 (by decide +kernel) (by decide +kernel)
theorem hc_X6_scrapingAt : yX6_scrapingAt.cls = RX6 ∧ yX6_scrapingAt.cls ≠ "java/lang/invoke/MethodHandle" ∧ yX6_scrapingAt.cls ≠ "java/lang/invoke/VarHandle" ∧ (parseMethodDescriptor yX6_scrapingAt.desc).map (fun d => d.parameters.length) = some 3 := by decide +kernel
theorem cd_X7_begin : Cond.code yX7_begin cX7_begin 3 none ∈ tz := tz_in 443 (by decide +kernel) (by decide +kernel)
theorem im_X7_begin : Cond.instanceMethod yX7_begin ∈ tz := tz_in 441 (by decide +kernel) (by decide +kernel)
theorem se_X7_begin : Cond.selects RX7 yX7_begin yX7_begin ∈ tz := tz_in 442 (by decide +kernel) (by decide +kernel)
theorem hc_X7_begin : yX7_begin.cls = RX7 ∧ yX7_begin.cls ≠ "java/lang/invoke/MethodHandle" ∧ yX7_begin.cls ≠ "java/lang/invoke/VarHandle" ∧ (parseMethodDescriptor yX7_begin.desc).map (fun d => d.parameters.length) = some 1 := by decide +kernel
theorem cd_X7_passMonth : Cond.code yX7_passMonth cX7_passMonth 2 none ∈ tz := tz_in 558 (by decide +kernel) (by decide +kernel)
theorem im_X7_passMonth : Cond.instanceMethod yX7_passMonth ∈ tz := tz_in 556 (by decide +kernel) (by decide +kernel)
theorem se_X7_passMonth : Cond.selects RX7 yX7_passMonth yX7_passMonth ∈ tz := tz_in 557 (by decide +kernel) (by decide +kernel)
theorem hc_X7_passMonth : yX7_passMonth.cls = RX7 ∧ yX7_passMonth.cls ≠ "java/lang/invoke/MethodHandle" ∧ yX7_passMonth.cls ≠ "java/lang/invoke/VarHandle" ∧ (parseMethodDescriptor yX7_passMonth.desc).map (fun d => d.parameters.length) = some 0 := by decide +kernel
theorem cd_X7_freePits : Cond.code yX7_freePits cX7_freePits 1 (some .int) ∈ tz := tz_in 586 (by decide +kernel) (by decide +kernel)
theorem im_X7_freePits : Cond.instanceMethod yX7_freePits ∈ tz := tz_in 584 (by decide +kernel) (by decide +kernel)
theorem se_X7_freePits : Cond.selects RX7 yX7_freePits yX7_freePits ∈ tz := tz_in 585 (by decide +kernel) (by decide +kernel)
theorem hc_X7_freePits : yX7_freePits.cls = RX7 ∧ yX7_freePits.cls ≠ "java/lang/invoke/MethodHandle" ∧ yX7_freePits.cls ≠ "java/lang/invoke/VarHandle" ∧ (parseMethodDescriptor yX7_freePits.desc).map (fun d => d.parameters.length) = some 0 := by decide +kernel
theorem cd_X7_setInside : Cond.code yX7_setInside cX7_setInside 3 (some .int) ∈ tz := tz_in 459 (by decide +kernel) (by decide +kernel)
theorem im_X7_setInside : Cond.instanceMethod yX7_setInside ∈ tz := tz_in 457 (by decide +kernel) (by decide +kernel)
theorem se_X7_setInside : Cond.selects RX7 yX7_setInside yX7_setInside ∈ tz := tz_in 458 (by decide +kernel) (by decide +kernel)
theorem hc_X7_setInside : yX7_setInside.cls = RX7 ∧ yX7_setInside.cls ≠ "java/lang/invoke/MethodHandle" ∧ yX7_setInside.cls ≠ "java/lang/invoke/VarHandle" ∧ (parseMethodDescriptor yX7_setInside.desc).map (fun d => d.parameters.length) = some 0 := by decide +kernel
theorem cd_X7_allWounds : Cond.code yX7_allWounds cX7_allWounds 3 (some .int) ∈ tz := tz_in 463 (by decide +kernel) (by decide +kernel)
theorem im_X7_allWounds : Cond.instanceMethod yX7_allWounds ∈ tz := tz_in 461 (by decide +kernel) (by decide +kernel)
theorem se_X7_allWounds : Cond.selects RX7 yX7_allWounds yX7_allWounds ∈ tz := tz_in 462 (by decide +kernel) (by decide +kernel)
theorem hc_X7_allWounds : yX7_allWounds.cls = RX7 ∧ yX7_allWounds.cls ≠ "java/lang/invoke/MethodHandle" ∧ yX7_allWounds.cls ≠ "java/lang/invoke/VarHandle" ∧ (parseMethodDescriptor yX7_allWounds.desc).map (fun d => d.parameters.length) = some 0 := by decide +kernel
theorem cd_X7_scrapeOff : Cond.code yX7_scrapeOff cX7_scrapeOff 4 none ∈ tz := tz_in 605 (by decide +kernel) (by decide +kernel)
theorem im_X7_scrapeOff : Cond.instanceMethod yX7_scrapeOff ∈ tz := tz_in 603 (by decide +kernel) (by decide +kernel)
theorem se_X7_scrapeOff : Cond.selects RX7 yX7_scrapeOff yX7_scrapeOff ∈ tz := tz_in 604 (by decide +kernel) (by decide +kernel)
theorem hc_X7_scrapeOff : yX7_scrapeOff.cls = RX7 ∧ yX7_scrapeOff.cls ≠ "java/lang/invoke/MethodHandle" ∧ yX7_scrapeOff.cls ≠ "java/lang/invoke/VarHandle" ∧ (parseMethodDescriptor yX7_scrapeOff.desc).map (fun d => d.parameters.length) = some 3 := by decide +kernel
theorem cd_X7_wound : Cond.code yX7_wound cX7_wound 3 none ∈ tz := tz_in 615 (by decide +kernel) (by decide +kernel)
theorem im_X7_wound : Cond.instanceMethod yX7_wound ∈ tz := tz_in 613 (by decide +kernel) (by decide +kernel)
theorem se_X7_wound : Cond.selects RX7 yX7_wound yX7_wound ∈ tz := tz_in 614 (by decide +kernel) (by decide +kernel)
theorem hc_X7_wound : yX7_wound.cls = RX7 ∧ yX7_wound.cls ≠ "java/lang/invoke/MethodHandle" ∧ yX7_wound.cls ≠ "java/lang/invoke/VarHandle" ∧ (parseMethodDescriptor yX7_wound.desc).map (fun d => d.parameters.length) = some 2 := by decide +kernel
theorem cd_X7_stir : Cond.code yX7_stir cX7_stir 4 none ∈ tz := tz_in 628 (by decide +kernel) (by decide +kernel)
theorem im_X7_stir : Cond.instanceMethod yX7_stir ∈ tz := tz_in 626 (by decide +kernel) (by decide +kernel)
theorem se_X7_stir : Cond.selects RX7 yX7_stir yX7_stir ∈ tz := tz_in 627 (by decide +kernel) (by decide +kernel)
theorem hc_X7_stir : yX7_stir.cls = RX7 ∧ yX7_stir.cls ≠ "java/lang/invoke/MethodHandle" ∧ yX7_stir.cls ≠ "java/lang/invoke/VarHandle" ∧ (parseMethodDescriptor yX7_stir.desc).map (fun d => d.parameters.length) = some 1 := by decide +kernel
theorem cd_X7_scrapeIfSoft : Cond.code yX7_scrapeIfSoft cX7_scrapeIfSoft 3 none ∈ tz := tz_in 642 (by decide +kernel) (by decide +kernel)
theorem im_X7_scrapeIfSoft : Cond.instanceMethod yX7_scrapeIfSoft ∈ tz := tz_in 640 (by decide +kernel) (by decide +kernel)
theorem se_X7_scrapeIfSoft : Cond.selects RX7 yX7_scrapeIfSoft yX7_scrapeIfSoft ∈ tz := tz_in 641 (by decide +kernel) (by decide +kernel)
theorem hc_X7_scrapeIfSoft : yX7_scrapeIfSoft.cls = RX7 ∧ yX7_scrapeIfSoft.cls ≠ "java/lang/invoke/MethodHandle" ∧ yX7_scrapeIfSoft.cls ≠ "java/lang/invoke/VarHandle" ∧ (parseMethodDescriptor yX7_scrapeIfSoft.desc).map (fun d => d.parameters.length) = some 2 := by decide +kernel
theorem cd_X7_best : Cond.code yX7_best cX7_best 5 (some .int) ∈ tz := tz_in 467 (by decide +kernel) (by decide +kernel)
theorem im_X7_best : Cond.instanceMethod yX7_best ∈ tz := tz_in 465 (by decide +kernel) (by decide +kernel)
theorem se_X7_best : Cond.selects RX7 yX7_best yX7_best ∈ tz := tz_in 466 (by decide +kernel) (by decide +kernel)
theorem hc_X7_best : yX7_best.cls = RX7 ∧ yX7_best.cls ≠ "java/lang/invoke/MethodHandle" ∧ yX7_best.cls ≠ "java/lang/invoke/VarHandle" ∧ (parseMethodDescriptor yX7_best.desc).map (fun d => d.parameters.length) = some 0 := by decide +kernel
theorem cd_X7_chosen : Cond.code yX7_chosen cX7_chosen 5 (some .int) ∈ tz := tz_in 482 (by decide +kernel) (by decide +kernel)
theorem im_X7_chosen : Cond.instanceMethod yX7_chosen ∈ tz := tz_in 480 (by decide +kernel) (by decide +kernel)
theorem se_X7_chosen : Cond.selects RX7 yX7_chosen yX7_chosen ∈ tz := tz_in 481 (by decide +kernel) (by decide +kernel)
theorem hc_X7_chosen : yX7_chosen.cls = RX7 ∧ yX7_chosen.cls ≠ "java/lang/invoke/MethodHandle" ∧ yX7_chosen.cls ≠ "java/lang/invoke/VarHandle" ∧ (parseMethodDescriptor yX7_chosen.desc).map (fun d => d.parameters.length) = some 0 := by decide +kernel
theorem cd_X7_votesFor : Cond.code yX7_votesFor cX7_votesFor 4 (some .int) ∈ tz := tz_in 486 (by decide +kernel) (by decide +kernel)
theorem im_X7_votesFor : Cond.instanceMethod yX7_votesFor ∈ tz := tz_in 484 (by decide +kernel) (by decide +kernel)
theorem se_X7_votesFor : Cond.selects RX7 yX7_votesFor yX7_votesFor ∈ tz := tz_in 485 (by decide +kernel) (by decide +kernel)
theorem hc_X7_votesFor : yX7_votesFor.cls = RX7 ∧ yX7_votesFor.cls ≠ "java/lang/invoke/MethodHandle" ∧ yX7_votesFor.cls ≠ "java/lang/invoke/VarHandle" ∧ (parseMethodDescriptor yX7_votesFor.desc).map (fun d => d.parameters.length) = some 1 := by decide +kernel
theorem cd_X7_leastPainedBy : Cond.code yX7_leastPainedBy cX7_leastPainedBy 4 (some .int) ∈ tz := tz_in 490 (by decide +kernel) (by decide +kernel)
theorem im_X7_leastPainedBy : Cond.instanceMethod yX7_leastPainedBy ∈ tz := tz_in 488 (by decide +kernel) (by decide +kernel)
theorem se_X7_leastPainedBy : Cond.selects RX7 yX7_leastPainedBy yX7_leastPainedBy ∈ tz := tz_in 489 (by decide +kernel) (by decide +kernel)
theorem hc_X7_leastPainedBy : yX7_leastPainedBy.cls = RX7 ∧ yX7_leastPainedBy.cls ≠ "java/lang/invoke/MethodHandle" ∧ yX7_leastPainedBy.cls ≠ "java/lang/invoke/VarHandle" ∧ (parseMethodDescriptor yX7_leastPainedBy.desc).map (fun d => d.parameters.length) = some 1 := by decide +kernel
theorem cd_X7_tender : Cond.code yX7_tender cX7_tender 6 (some .int) ∈ tz := tz_in 495 (by decide +kernel) (by decide +kernel)
theorem im_X7_tender : Cond.instanceMethod yX7_tender ∈ tz := tz_in 493 (by decide +kernel) (by decide +kernel)
theorem se_X7_tender : Cond.selects RX7 yX7_tender yX7_tender ∈ tz := tz_in 494 (by decide +kernel) (by decide +kernel)
theorem hc_X7_tender : yX7_tender.cls = RX7 ∧ yX7_tender.cls ≠ "java/lang/invoke/MethodHandle" ∧ yX7_tender.cls ≠ "java/lang/invoke/VarHandle" ∧ (parseMethodDescriptor yX7_tender.desc).map (fun d => d.parameters.length) = some 0 := by decide +kernel
theorem cd_X7_saveTo : Cond.code yX7_saveTo cX7_saveTo 3 none ∈ tz := tz_in 547 (by decide +kernel) (by decide +kernel)
theorem im_X7_saveTo : Cond.instanceMethod yX7_saveTo ∈ tz := tz_in 545 (by decide +kernel) (by decide +kernel)
theorem se_X7_saveTo : Cond.selects RX7 yX7_saveTo yX7_saveTo ∈ tz := tz_in 546 (by decide +kernel) (by decide +kernel)
theorem hc_X7_saveTo : yX7_saveTo.cls = RX7 ∧ yX7_saveTo.cls ≠ "java/lang/invoke/MethodHandle" ∧ yX7_saveTo.cls ≠ "java/lang/invoke/VarHandle" ∧ (parseMethodDescriptor yX7_saveTo.desc).map (fun d => d.parameters.length) = some 1 := by decide +kernel
theorem cd_X7_loadFrom : Cond.code yX7_loadFrom cX7_loadFrom 3 none ∈ tz := tz_in 655 (by decide +kernel) (by decide +kernel)
theorem im_X7_loadFrom : Cond.instanceMethod yX7_loadFrom ∈ tz := tz_in 653 (by decide +kernel) (by decide +kernel)
theorem se_X7_loadFrom : Cond.selects RX7 yX7_loadFrom yX7_loadFrom ∈ tz := tz_in 654 (by decide +kernel) (by decide +kernel)
theorem hc_X7_loadFrom : yX7_loadFrom.cls = RX7 ∧ yX7_loadFrom.cls ≠ "java/lang/invoke/MethodHandle" ∧ yX7_loadFrom.cls ≠ "java/lang/invoke/VarHandle" ∧ (parseMethodDescriptor yX7_loadFrom.desc).map (fun d => d.parameters.length) = some 1 := by decide +kernel
theorem cd_X8_add : Cond.code yX8_add cX8_add 2 (some .int) ∈ tz := tz_in 380 (by decide +kernel) (by decide +kernel)
theorem im_X8_add : Cond.instanceMethod yX8_add ∈ tz := tz_in 378 (by decide +kernel) (by decide +kernel)
theorem se_X8_add : Cond.selects RX8 yX8_add yX8_add ∈ tz := tz_in 379 (by decide +kernel) (by decide +kernel)
theorem hc_X8_add : yX8_add.cls = RX8 ∧ yX8_add.cls ≠ "java/lang/invoke/MethodHandle" ∧ yX8_add.cls ≠ "java/lang/invoke/VarHandle" ∧ (parseMethodDescriptor yX8_add.desc).map (fun d => d.parameters.length) = some 1 := by decide +kernel
theorem cd_X8_readInto : Cond.code yX8_readInto cX8_readInto 3 none ∈ tz := tz_in 388 (by decide +kernel) (by decide +kernel)
theorem im_X8_readInto : Cond.instanceMethod yX8_readInto ∈ tz := tz_in 386 (by decide +kernel) (by decide +kernel)
theorem se_X8_readInto : Cond.selects RX8 yX8_readInto yX8_readInto ∈ tz := tz_in 387 (by decide +kernel) (by decide +kernel)
theorem hc_X8_readInto : yX8_readInto.cls = RX8 ∧ yX8_readInto.cls ≠ "java/lang/invoke/MethodHandle" ∧ yX8_readInto.cls ≠ "java/lang/invoke/VarHandle" ∧ (parseMethodDescriptor yX8_readInto.desc).map (fun d => d.parameters.length) = some 1 := by decide +kernel
theorem cd_X8_mark : Cond.code yX8_mark cX8_mark 3 none ∈ tz := tz_in 415 (by decide +kernel) (by decide +kernel)
theorem im_X8_mark : Cond.instanceMethod yX8_mark ∈ tz := tz_in 413 (by decide +kernel) (by decide +kernel)
theorem se_X8_mark : Cond.selects RX8 yX8_mark yX8_mark ∈ tz := tz_in 414 (by decide +kernel) (by decide +kernel)
theorem hc_X8_mark : yX8_mark.cls = RX8 ∧ yX8_mark.cls ≠ "java/lang/invoke/MethodHandle" ∧ yX8_mark.cls ≠ "java/lang/invoke/VarHandle" ∧ (parseMethodDescriptor yX8_mark.desc).map (fun d => d.parameters.length) = some 2 := by decide +kernel
theorem cd_X8_letter : Cond.code yX8_letter cX8_letter 1 (some .int) ∈ tz := tz_in 404 (by decide +kernel) (by decide +kernel)
theorem im_X8_letter : Cond.instanceMethod yX8_letter ∈ tz := tz_in 402 (by decide +kernel) (by decide +kernel)
theorem se_X8_letter : Cond.selects RX8 yX8_letter yX8_letter ∈ tz := tz_in 403 (by decide +kernel) (by decide +kernel)
theorem hc_X8_letter : yX8_letter.cls = RX8 ∧ yX8_letter.cls ≠ "java/lang/invoke/MethodHandle" ∧ yX8_letter.cls ≠ "java/lang/invoke/VarHandle" ∧ (parseMethodDescriptor yX8_letter.desc).map (fun d => d.parameters.length) = some 0 := by decide +kernel
theorem cd_X8_skipBlanks : Cond.code yX8_skipBlanks cX8_skipBlanks 1 none ∈ tz := tz_in 396 (by decide +kernel) (by decide +kernel)
theorem im_X8_skipBlanks : Cond.instanceMethod yX8_skipBlanks ∈ tz := tz_in 394 (by decide +kernel) (by decide +kernel)
theorem se_X8_skipBlanks : Cond.selects RX8 yX8_skipBlanks yX8_skipBlanks ∈ tz := tz_in 395 (by decide +kernel) (by decide +kernel)
theorem hc_X8_skipBlanks : yX8_skipBlanks.cls = RX8 ∧ yX8_skipBlanks.cls ≠ "java/lang/invoke/MethodHandle" ∧ yX8_skipBlanks.cls ≠ "java/lang/invoke/VarHandle" ∧ (parseMethodDescriptor yX8_skipBlanks.desc).map (fun d => d.parameters.length) = some 0 := by decide +kernel
theorem cd_X8_isFigure : Cond.code yX8_isFigure cX8_isFigure 1 (some .boolean) ∈ tz := tz_in 426 (by decide +kernel) (by decide +kernel)
theorem sm_X8_isFigure : Cond.static yX8_isFigure ∈ tz := tz_in 425 (by decide +kernel) (by decide +kernel)
theorem hc_X8_isFigure : yX8_isFigure.cls ≠ "java/lang/invoke/MethodHandle" ∧ yX8_isFigure.cls ≠ "java/lang/invoke/VarHandle" ∧ (parseMethodDescriptor yX8_isFigure.desc).map (fun d => d.parameters.length) = some 1 := by decide +kernel
theorem cd_X8_readClause : Cond.code yX8_readClause cX8_readClause 4 none ∈ tz := tz_in 400 (by decide +kernel) (by decide +kernel)
theorem im_X8_readClause : Cond.instanceMethod yX8_readClause ∈ tz := tz_in 398 (by decide +kernel) (by decide +kernel)
theorem se_X8_readClause : Cond.selects RX8 yX8_readClause yX8_readClause ∈ tz := tz_in 399 (by decide +kernel) (by decide +kernel)
theorem hc_X8_readClause : yX8_readClause.cls = RX8 ∧ yX8_readClause.cls ≠ "java/lang/invoke/MethodHandle" ∧ yX8_readClause.cls ≠ "java/lang/invoke/VarHandle" ∧ (parseMethodDescriptor yX8_readClause.desc).map (fun d => d.parameters.length) = some 1 := by decide +kernel
theorem cd_X8_faultOfWord : Cond.code yX8_faultOfWord cX8_faultOfWord 2 (some .int) ∈ tz := tz_in 407 (by decide +kernel) (by decide +kernel)
theorem sm_X8_faultOfWord : Cond.static yX8_faultOfWord ∈ tz := tz_in 406 (by decide +kernel) (by decide +kernel)
theorem hc_X8_faultOfWord : yX8_faultOfWord.cls ≠ "java/lang/invoke/MethodHandle" ∧ yX8_faultOfWord.cls ≠ "java/lang/invoke/VarHandle" ∧ (parseMethodDescriptor yX8_faultOfWord.desc).map (fun d => d.parameters.length) = some 2 := by decide +kernel
theorem cd_X8_readPits : Cond.code yX8_readPits cX8_readPits 2 none ∈ tz := tz_in 419 (by decide +kernel) (by decide +kernel)
theorem im_X8_readPits : Cond.instanceMethod yX8_readPits ∈ tz := tz_in 417 (by decide +kernel) (by decide +kernel)
theorem se_X8_readPits : Cond.selects RX8 yX8_readPits yX8_readPits ∈ tz := tz_in 418 (by decide +kernel) (by decide +kernel)
theorem hc_X8_readPits : yX8_readPits.cls = RX8 ∧ yX8_readPits.cls ≠ "java/lang/invoke/MethodHandle" ∧ yX8_readPits.cls ≠ "java/lang/invoke/VarHandle" ∧ (parseMethodDescriptor yX8_readPits.desc).map (fun d => d.parameters.length) = some 1 := by decide +kernel
theorem cd_X8_readMan : Cond.code yX8_readMan cX8_readMan 4 none ∈ tz := tz_in 431 (by decide +kernel) (by decide +kernel)
theorem im_X8_readMan : Cond.instanceMethod yX8_readMan ∈ tz := tz_in 429 (by decide +kernel) (by decide +kernel)
theorem se_X8_readMan : Cond.selects RX8 yX8_readMan yX8_readMan ∈ tz := tz_in 430 (by decide +kernel) (by decide +kernel)
theorem hc_X8_readMan : yX8_readMan.cls = RX8 ∧ yX8_readMan.cls ≠ "java/lang/invoke/MethodHandle" ∧ yX8_readMan.cls ≠ "java/lang/invoke/VarHandle" ∧ (parseMethodDescriptor yX8_readMan.desc).map (fun d => d.parameters.length) = some 1 := by decide +kernel
theorem cd_X8_readSaying : Cond.code yX8_readSaying cX8_readSaying 3 none ∈ tz := tz_in 439 (by decide +kernel) (by decide +kernel)
theorem im_X8_readSaying : Cond.instanceMethod yX8_readSaying ∈ tz := tz_in 437 (by decide +kernel) (by decide +kernel)
theorem se_X8_readSaying : Cond.selects RX8 yX8_readSaying yX8_readSaying ∈ tz := tz_in 438 (by decide +kernel) (by decide +kernel)
theorem hc_X8_readSaying : yX8_readSaying.cls = RX8 ∧ yX8_readSaying.cls ≠ "java/lang/invoke/MethodHandle" ∧ yX8_readSaying.cls ≠ "java/lang/invoke/VarHandle" ∧ (parseMethodDescriptor yX8_readSaying.desc).map (fun d => d.parameters.length) = some 1 := by decide +kernel
theorem cd_X8_readNumber : Cond.code yX8_readNumber cX8_readNumber 6 (some .int) ∈ tz := tz_in 423 (by decide +kernel) (by decide +kernel)
theorem im_X8_readNumber : Cond.instanceMethod yX8_readNumber ∈ tz := tz_in 421 (by decide +kernel) (by decide +kernel)
theorem se_X8_readNumber : Cond.selects RX8 yX8_readNumber yX8_readNumber ∈ tz := tz_in 422 (by decide +kernel) (by decide +kernel)
theorem hc_X8_readNumber : yX8_readNumber.cls = RX8 ∧ yX8_readNumber.cls ≠ "java/lang/invoke/MethodHandle" ∧ yX8_readNumber.cls ≠ "java/lang/invoke/VarHandle" ∧ (parseMethodDescriptor yX8_readNumber.desc).map (fun d => d.parameters.length) = some 2 := by decide +kernel
theorem cd_X8_skipMark : Cond.code yX8_skipMark cX8_skipMark 2 none ∈ tz := tz_in 435 (by decide +kernel) (by decide +kernel)
theorem im_X8_skipMark : Cond.instanceMethod yX8_skipMark ∈ tz := tz_in 433 (by decide +kernel) (by decide +kernel)
theorem se_X8_skipMark : Cond.selects RX8 yX8_skipMark yX8_skipMark ∈ tz := tz_in 434 (by decide +kernel) (by decide +kernel)
theorem hc_X8_skipMark : yX8_skipMark.cls = RX8 ∧ yX8_skipMark.cls ≠ "java/lang/invoke/MethodHandle" ∧ yX8_skipMark.cls ≠ "java/lang/invoke/VarHandle" ∧ (parseMethodDescriptor yX8_skipMark.desc).map (fun d => d.parameters.length) = some 1 := by decide +kernel
theorem cd_X9_startNow : Cond.code yX9_startNow cX9_startNow 3 none ∈ tz := tz_in 667 (by decide +kernel) (by decide +kernel)
theorem im_X9_startNow : Cond.instanceMethod yX9_startNow ∈ tz := tz_in 665 (by decide +kernel) (by decide +kernel)
theorem se_X9_startNow : Cond.selects RX9 yX9_startNow yX9_startNow ∈ tz := tz_in 666 (by decide +kernel) (by decide +kernel)
theorem hc_X9_startNow : yX9_startNow.cls = RX9 ∧ yX9_startNow.cls ≠ "java/lang/invoke/MethodHandle" ∧ yX9_startNow.cls ≠ "java/lang/invoke/VarHandle" ∧ (parseMethodDescriptor yX9_startNow.desc).map (fun d => d.parameters.length) = some 2 := by decide +kernel
theorem cd_X9_startFirst : Cond.code yX9_startFirst cX9_startFirst 3 none ∈ tz := tz_in 791 (by decide +kernel) (by decide +kernel)
theorem im_X9_startFirst : Cond.instanceMethod yX9_startFirst ∈ tz := tz_in 789 (by decide +kernel) (by decide +kernel)
theorem se_X9_startFirst : Cond.selects RX9 yX9_startFirst yX9_startFirst ∈ tz := tz_in 790 (by decide +kernel) (by decide +kernel)
theorem hc_X9_startFirst : yX9_startFirst.cls = RX9 ∧ yX9_startFirst.cls ≠ "java/lang/invoke/MethodHandle" ∧ yX9_startFirst.cls ≠ "java/lang/invoke/VarHandle" ∧ (parseMethodDescriptor yX9_startFirst.desc).map (fun d => d.parameters.length) = some 2 := by decide +kernel
theorem cd_X9_clearNotes : Cond.code yX9_clearNotes cX9_clearNotes 1 none ∈ tz := tz_in 675 (by decide +kernel) (by decide +kernel)
theorem im_X9_clearNotes : Cond.instanceMethod yX9_clearNotes ∈ tz := tz_in 673 (by decide +kernel) (by decide +kernel)
theorem se_X9_clearNotes : Cond.selects RX9 yX9_clearNotes yX9_clearNotes ∈ tz := tz_in 674 (by decide +kernel) (by decide +kernel)
theorem hc_X9_clearNotes : yX9_clearNotes.cls = RX9 ∧ yX9_clearNotes.cls ≠ "java/lang/invoke/MethodHandle" ∧ yX9_clearNotes.cls ≠ "java/lang/invoke/VarHandle" ∧ (parseMethodDescriptor yX9_clearNotes.desc).map (fun d => d.parameters.length) = some 0 := by decide +kernel
theorem cd_X9_note : Cond.code yX9_note cX9_note 2 none ∈ tz := tz_in 715 (by decide +kernel) (by decide +kernel)
theorem im_X9_note : Cond.instanceMethod yX9_note ∈ tz := tz_in 713 (by decide +kernel) (by decide +kernel)
theorem se_X9_note : Cond.selects RX9 yX9_note yX9_note ∈ tz := tz_in 714 (by decide +kernel) (by decide +kernel)
theorem hc_X9_note : yX9_note.cls = RX9 ∧ yX9_note.cls ≠ "java/lang/invoke/MethodHandle" ∧ yX9_note.cls ≠ "java/lang/invoke/VarHandle" ∧ (parseMethodDescriptor yX9_note.desc).map (fun d => d.parameters.length) = some 1 := by decide +kernel
theorem cd_X9_noted : Cond.code yX9_noted cX9_noted 2 (some .int) ∈ tz := tz_in 719 (by decide +kernel) (by decide +kernel)
theorem im_X9_noted : Cond.instanceMethod yX9_noted ∈ tz := tz_in 717 (by decide +kernel) (by decide +kernel)
theorem se_X9_noted : Cond.selects RX9 yX9_noted yX9_noted ∈ tz := tz_in 718 (by decide +kernel) (by decide +kernel)
theorem hc_X9_noted : yX9_noted.cls = RX9 ∧ yX9_noted.cls ≠ "java/lang/invoke/MethodHandle" ∧ yX9_noted.cls ≠ "java/lang/invoke/VarHandle" ∧ (parseMethodDescriptor yX9_noted.desc).map (fun d => d.parameters.length) = some 1 := by decide +kernel
theorem cd_X9_passMonth : Cond.code yX9_passMonth cX9_passMonth 1 none ∈ tz := tz_in 679 (by decide +kernel) (by decide +kernel)
theorem im_X9_passMonth : Cond.instanceMethod yX9_passMonth ∈ tz := tz_in 677 (by decide +kernel) (by decide +kernel)
theorem se_X9_passMonth : Cond.selects RX9 yX9_passMonth yX9_passMonth ∈ tz := tz_in 678 (by decide +kernel) (by decide +kernel)
theorem hc_X9_passMonth : yX9_passMonth.cls = RX9 ∧ yX9_passMonth.cls ≠ "java/lang/invoke/MethodHandle" ∧ yX9_passMonth.cls ≠ "java/lang/invoke/VarHandle" ∧ (parseMethodDescriptor yX9_passMonth.desc).map (fun d => d.parameters.length) = some 0 := by decide +kernel
theorem cd_X9_firstBearing : Cond.code yX9_firstBearing cX9_firstBearing 4 (some .int) ∈ tz := tz_in 688 (by decide +kernel) (by decide +kernel)
theorem im_X9_firstBearing : Cond.instanceMethod yX9_firstBearing ∈ tz := tz_in 686 (by decide +kernel) (by decide +kernel)
theorem se_X9_firstBearing : Cond.selects RX9 yX9_firstBearing yX9_firstBearing ∈ tz := tz_in 687 (by decide +kernel) (by decide +kernel)
theorem hc_X9_firstBearing : yX9_firstBearing.cls = RX9 ∧ yX9_firstBearing.cls ≠ "java/lang/invoke/MethodHandle" ∧ yX9_firstBearing.cls ≠ "java/lang/invoke/VarHandle" ∧ (parseMethodDescriptor yX9_firstBearing.desc).map (fun d => d.parameters.length) = some 2 := by decide +kernel
theorem cd_X9_lastFeeling : Cond.code yX9_lastFeeling cX9_lastFeeling 5 (some .int) ∈ tz := tz_in 697 (by decide +kernel) (by decide +kernel)
theorem im_X9_lastFeeling : Cond.instanceMethod yX9_lastFeeling ∈ tz := tz_in 695 (by decide +kernel) (by decide +kernel)
theorem se_X9_lastFeeling : Cond.selects RX9 yX9_lastFeeling yX9_lastFeeling ∈ tz := tz_in 696 (by decide +kernel) (by decide +kernel)
theorem hc_X9_lastFeeling : yX9_lastFeeling.cls = RX9 ∧ yX9_lastFeeling.cls ≠ "java/lang/invoke/MethodHandle" ∧ yX9_lastFeeling.cls ≠ "java/lang/invoke/VarHandle" ∧ (parseMethodDescriptor yX9_lastFeeling.desc).map (fun d => d.parameters.length) = some 2 := by decide +kernel
theorem cd_X10_feed : Cond.code yX10_feed cX10_feed 2 (some .int) ∈ tz := tz_in 371 (by decide +kernel) (by decide +kernel)
theorem im_X10_feed : Cond.instanceMethod yX10_feed ∈ tz := tz_in 369 (by decide +kernel) (by decide +kernel)
theorem se_X10_feed : Cond.selects RX10 yX10_feed yX10_feed ∈ tz := tz_in 370 (by decide +kernel) (by decide +kernel)
theorem hc_X10_feed : yX10_feed.cls = RX10 ∧ yX10_feed.cls ≠ "java/lang/invoke/MethodHandle" ∧ yX10_feed.cls ≠ "java/lang/invoke/VarHandle" ∧ (parseMethodDescriptor yX10_feed.desc).map (fun d => d.parameters.length) = some 1 := by decide +kernel
theorem cd_X10_yard : Cond.code yX10_yard cX10_yard 2 (some .int) ∈ tz := tz_in 384 (by decide +kernel) (by decide +kernel)
theorem im_X10_yard : Cond.instanceMethod yX10_yard ∈ tz := tz_in 382 (by decide +kernel) (by decide +kernel)
theorem se_X10_yard : Cond.selects RX10 yX10_yard yX10_yard ∈ tz := tz_in 383 (by decide +kernel) (by decide +kernel)
theorem hc_X10_yard : yX10_yard.cls = RX10 ∧ yX10_yard.cls ≠ "java/lang/invoke/MethodHandle" ∧ yX10_yard.cls ≠ "java/lang/invoke/VarHandle" ∧ (parseMethodDescriptor yX10_yard.desc).map (fun d => d.parameters.length) = some 0 := by decide +kernel
theorem cd_X10_fault : Cond.code yX10_fault cX10_fault 1 (some .int) ∈ tz := tz_in 451 (by decide +kernel) (by decide +kernel)
theorem im_X10_fault : Cond.instanceMethod yX10_fault ∈ tz := tz_in 449 (by decide +kernel) (by decide +kernel)
theorem se_X10_fault : Cond.selects RX10 yX10_fault yX10_fault ∈ tz := tz_in 450 (by decide +kernel) (by decide +kernel)
theorem hc_X10_fault : yX10_fault.cls = RX10 ∧ yX10_fault.cls ≠ "java/lang/invoke/MethodHandle" ∧ yX10_fault.cls ≠ "java/lang/invoke/VarHandle" ∧ (parseMethodDescriptor yX10_fault.desc).map (fun d => d.parameters.length) = some 0 := by decide +kernel
theorem cd_X10_told : Cond.code yX10_told cX10_told 2 (some .int) ∈ tz := tz_in 455 (by decide +kernel) (by decide +kernel)
theorem im_X10_told : Cond.instanceMethod yX10_told ∈ tz := tz_in 453 (by decide +kernel) (by decide +kernel)
theorem se_X10_told : Cond.selects RX10 yX10_told yX10_told ∈ tz := tz_in 454 (by decide +kernel) (by decide +kernel)
theorem hc_X10_told : yX10_told.cls = RX10 ∧ yX10_told.cls ≠ "java/lang/invoke/MethodHandle" ∧ yX10_told.cls ≠ "java/lang/invoke/VarHandle" ∧ (parseMethodDescriptor yX10_told.desc).map (fun d => d.parameters.length) = some 1 := by decide +kernel
theorem cd_X10_man : Cond.code yX10_man cX10_man 4 (some .int) ∈ tz := tz_in 499 (by decide +kernel) (by decide +kernel)
theorem im_X10_man : Cond.instanceMethod yX10_man ∈ tz := tz_in 497 (by decide +kernel) (by decide +kernel)
theorem se_X10_man : Cond.selects RX10 yX10_man yX10_man ∈ tz := tz_in 498 (by decide +kernel) (by decide +kernel)
theorem hc_X10_man : yX10_man.cls = RX10 ∧ yX10_man.cls ≠ "java/lang/invoke/MethodHandle" ∧ yX10_man.cls ≠ "java/lang/invoke/VarHandle" ∧ (parseMethodDescriptor yX10_man.desc).map (fun d => d.parameters.length) = some 2 := by decide +kernel
theorem cd_X10_skin : Cond.code yX10_skin cX10_skin 5 (some .int) ∈ tz := tz_in 516 (by decide +kernel) (by decide +kernel)
theorem im_X10_skin : Cond.instanceMethod yX10_skin ∈ tz := tz_in 514 (by decide +kernel) (by decide +kernel)
theorem se_X10_skin : Cond.selects RX10 yX10_skin yX10_skin ∈ tz := tz_in 515 (by decide +kernel) (by decide +kernel)
theorem hc_X10_skin : yX10_skin.cls = RX10 ∧ yX10_skin.cls ≠ "java/lang/invoke/MethodHandle" ∧ yX10_skin.cls ≠ "java/lang/invoke/VarHandle" ∧ (parseMethodDescriptor yX10_skin.desc).map (fun d => d.parameters.length) = some 3 := by decide +kernel
theorem cd_X10_saying : Cond.code yX10_saying cX10_saying 3 (some .int) ∈ tz := tz_in 520 (by decide +kernel) (by decide +kernel)
theorem im_X10_saying : Cond.instanceMethod yX10_saying ∈ tz := tz_in 518 (by decide +kernel) (by decide +kernel)
theorem se_X10_saying : Cond.selects RX10 yX10_saying yX10_saying ∈ tz := tz_in 519 (by decide +kernel) (by decide +kernel)
theorem hc_X10_saying : yX10_saying.cls = RX10 ∧ yX10_saying.cls ≠ "java/lang/invoke/MethodHandle" ∧ yX10_saying.cls ≠ "java/lang/invoke/VarHandle" ∧ (parseMethodDescriptor yX10_saying.desc).map (fun d => d.parameters.length) = some 2 := by decide +kernel
theorem cd_X10_hurt : Cond.code yX10_hurt cX10_hurt 3 (some .int) ∈ tz := tz_in 528 (by decide +kernel) (by decide +kernel)
theorem im_X10_hurt : Cond.instanceMethod yX10_hurt ∈ tz := tz_in 526 (by decide +kernel) (by decide +kernel)
theorem se_X10_hurt : Cond.selects RX10 yX10_hurt yX10_hurt ∈ tz := tz_in 527 (by decide +kernel) (by decide +kernel)
theorem hc_X10_hurt : yX10_hurt.cls = RX10 ∧ yX10_hurt.cls ≠ "java/lang/invoke/MethodHandle" ∧ yX10_hurt.cls ≠ "java/lang/invoke/VarHandle" ∧ (parseMethodDescriptor yX10_hurt.desc).map (fun d => d.parameters.length) = some 2 := by decide +kernel
theorem cd_X10_month : Cond.code yX10_month cX10_month 4 (some .int) ∈ tz := tz_in 533 (by decide +kernel) (by decide +kernel)
theorem im_X10_month : Cond.instanceMethod yX10_month ∈ tz := tz_in 531 (by decide +kernel) (by decide +kernel)
theorem se_X10_month : Cond.selects RX10 yX10_month yX10_month ∈ tz := tz_in 532 (by decide +kernel) (by decide +kernel)
theorem hc_X10_month : yX10_month.cls = RX10 ∧ yX10_month.cls ≠ "java/lang/invoke/MethodHandle" ∧ yX10_month.cls ≠ "java/lang/invoke/VarHandle" ∧ (parseMethodDescriptor yX10_month.desc).map (fun d => d.parameters.length) = some 1 := by decide +kernel
theorem cd_X10_in : Cond.code yX10_in cX10_in 2 (some .int) ∈ tz := tz_in 582 (by decide +kernel) (by decide +kernel)
theorem im_X10_in : Cond.instanceMethod yX10_in ∈ tz := tz_in 580 (by decide +kernel) (by decide +kernel)
theorem se_X10_in : Cond.selects RX10 yX10_in yX10_in ∈ tz := tz_in 581 (by decide +kernel) (by decide +kernel)
theorem hc_X10_in : yX10_in.cls = RX10 ∧ yX10_in.cls ≠ "java/lang/invoke/MethodHandle" ∧ yX10_in.cls ≠ "java/lang/invoke/VarHandle" ∧ (parseMethodDescriptor yX10_in.desc).map (fun d => d.parameters.length) = some 1 := by decide +kernel
theorem cd_X10_out : Cond.code yX10_out cX10_out 2 (some .int) ∈ tz := tz_in 597 (by decide +kernel) (by decide +kernel)
theorem im_X10_out : Cond.instanceMethod yX10_out ∈ tz := tz_in 595 (by decide +kernel) (by decide +kernel)
theorem se_X10_out : Cond.selects RX10 yX10_out yX10_out ∈ tz := tz_in 596 (by decide +kernel) (by decide +kernel)
theorem hc_X10_out : yX10_out.cls = RX10 ∧ yX10_out.cls ≠ "java/lang/invoke/MethodHandle" ∧ yX10_out.cls ≠ "java/lang/invoke/VarHandle" ∧ (parseMethodDescriptor yX10_out.desc).map (fun d => d.parameters.length) = some 1 := by decide +kernel
theorem cd_X10_scrape : Cond.code yX10_scrape cX10_scrape 4 (some .int) ∈ tz := tz_in 601 (by decide +kernel) (by decide +kernel)
theorem im_X10_scrape : Cond.instanceMethod yX10_scrape ∈ tz := tz_in 599 (by decide +kernel) (by decide +kernel)
theorem se_X10_scrape : Cond.selects RX10 yX10_scrape yX10_scrape ∈ tz := tz_in 600 (by decide +kernel) (by decide +kernel)
theorem hc_X10_scrape : yX10_scrape.cls = RX10 ∧ yX10_scrape.cls ≠ "java/lang/invoke/MethodHandle" ∧ yX10_scrape.cls ≠ "java/lang/invoke/VarHandle" ∧ (parseMethodDescriptor yX10_scrape.desc).map (fun d => d.parameters.length) = some 3 := by decide +kernel
theorem cd_X10_say : Cond.code yX10_say cX10_say 3 (some .int) ∈ tz := tz_in 611 (by decide +kernel) (by decide +kernel)
theorem im_X10_say : Cond.instanceMethod yX10_say ∈ tz := tz_in 609 (by decide +kernel) (by decide +kernel)
theorem se_X10_say : Cond.selects RX10 yX10_say yX10_say ∈ tz := tz_in 610 (by decide +kernel) (by decide +kernel)
theorem hc_X10_say : yX10_say.cls = RX10 ∧ yX10_say.cls ≠ "java/lang/invoke/MethodHandle" ∧ yX10_say.cls ≠ "java/lang/invoke/VarHandle" ∧ (parseMethodDescriptor yX10_say.desc).map (fun d => d.parameters.length) = some 2 := by decide +kernel
theorem cd_X10_bark : Cond.code yX10_bark cX10_bark 3 (some .int) ∈ tz := tz_in 620 (by decide +kernel) (by decide +kernel)
theorem im_X10_bark : Cond.instanceMethod yX10_bark ∈ tz := tz_in 618 (by decide +kernel) (by decide +kernel)
theorem se_X10_bark : Cond.selects RX10 yX10_bark yX10_bark ∈ tz := tz_in 619 (by decide +kernel) (by decide +kernel)
theorem hc_X10_bark : yX10_bark.cls = RX10 ∧ yX10_bark.cls ≠ "java/lang/invoke/MethodHandle" ∧ yX10_bark.cls ≠ "java/lang/invoke/VarHandle" ∧ (parseMethodDescriptor yX10_bark.desc).map (fun d => d.parameters.length) = some 1 := by decide +kernel
theorem cd_X10_drift : Cond.code yX10_drift cX10_drift 4 (some .int) ∈ tz := tz_in 624 (by decide +kernel) (by decide +kernel)
theorem im_X10_drift : Cond.instanceMethod yX10_drift ∈ tz := tz_in 622 (by decide +kernel) (by decide +kernel)
theorem se_X10_drift : Cond.selects RX10 yX10_drift yX10_drift ∈ tz := tz_in 623 (by decide +kernel) (by decide +kernel)
theorem hc_X10_drift : yX10_drift.cls = RX10 ∧ yX10_drift.cls ≠ "java/lang/invoke/MethodHandle" ∧ yX10_drift.cls ≠ "java/lang/invoke/VarHandle" ∧ (parseMethodDescriptor yX10_drift.desc).map (fun d => d.parameters.length) = some 1 := by decide +kernel
theorem cd_X10_undo : Cond.code yX10_undo cX10_undo 1 (some .int) ∈ tz := tz_in 647 (by decide +kernel) (by decide +kernel)
theorem im_X10_undo : Cond.instanceMethod yX10_undo ∈ tz := tz_in 645 (by decide +kernel) (by decide +kernel)
theorem se_X10_undo : Cond.selects RX10 yX10_undo yX10_undo ∈ tz := tz_in 646 (by decide +kernel) (by decide +kernel)
theorem hc_X10_undo : yX10_undo.cls = RX10 ∧ yX10_undo.cls ≠ "java/lang/invoke/MethodHandle" ∧ yX10_undo.cls ≠ "java/lang/invoke/VarHandle" ∧ (parseMethodDescriptor yX10_undo.desc).map (fun d => d.parameters.length) = some 0 := by decide +kernel
theorem cd_X10_thick : Cond.code yX10_thick cX10_thick 5 (some .int) ∈ tz := tz_in 663 (by decide +kernel) (by decide +kernel)
theorem im_X10_thick : Cond.instanceMethod yX10_thick ∈ tz := tz_in 661 (by decide +kernel) (by decide +kernel)
theorem se_X10_thick : Cond.selects RX10 yX10_thick yX10_thick ∈ tz := tz_in 662 (by decide +kernel) (by decide +kernel)
theorem hc_X10_thick : yX10_thick.cls = RX10 ∧ yX10_thick.cls ≠ "java/lang/invoke/MethodHandle" ∧ yX10_thick.cls ≠ "java/lang/invoke/VarHandle" ∧ (parseMethodDescriptor yX10_thick.desc).map (fun d => d.parameters.length) = some 3 := by decide +kernel
theorem cd_X10_when : Cond.code yX10_when cX10_when 4 (some .int) ∈ tz := tz_in 684 (by decide +kernel) (by decide +kernel)
theorem im_X10_when : Cond.instanceMethod yX10_when ∈ tz := tz_in 682 (by decide +kernel) (by decide +kernel)
theorem se_X10_when : Cond.selects RX10 yX10_when yX10_when ∈ tz := tz_in 683 (by decide +kernel) (by decide +kernel)
theorem hc_X10_when : yX10_when.cls = RX10 ∧ yX10_when.cls ≠ "java/lang/invoke/MethodHandle" ∧ yX10_when.cls ≠ "java/lang/invoke/VarHandle" ∧ (parseMethodDescriptor yX10_when.desc).map (fun d => d.parameters.length) = some 3 := by decide +kernel
theorem cd_X10_edge : Cond.code yX10_edge cX10_edge 6 (some .int) ∈ tz := tz_in 702 (by decide +kernel) (by decide +kernel)
theorem im_X10_edge : Cond.instanceMethod yX10_edge ∈ tz := tz_in 700 (by decide +kernel) (by decide +kernel)
theorem se_X10_edge : Cond.selects RX10 yX10_edge yX10_edge ∈ tz := tz_in 701 (by decide +kernel) (by decide +kernel)
theorem hc_X10_edge : yX10_edge.cls = RX10 ∧ yX10_edge.cls ≠ "java/lang/invoke/MethodHandle" ∧ yX10_edge.cls ≠ "java/lang/invoke/VarHandle" ∧ (parseMethodDescriptor yX10_edge.desc).map (fun d => d.parameters.length) = some 4 := by decide +kernel
theorem cd_X10_scraping : Cond.code yX10_scraping cX10_scraping 3 (some .int) ∈ tz := tz_in 723 (by decide +kernel) (by decide +kernel)
theorem im_X10_scraping : Cond.instanceMethod yX10_scraping ∈ tz := tz_in 721 (by decide +kernel) (by decide +kernel)
theorem se_X10_scraping : Cond.selects RX10 yX10_scraping yX10_scraping ∈ tz := tz_in 722 (by decide +kernel) (by decide +kernel)
theorem hc_X10_scraping : yX10_scraping.cls = RX10 ∧ yX10_scraping.cls ≠ "java/lang/invoke/MethodHandle" ∧ yX10_scraping.cls ≠ "java/lang/invoke/VarHandle" ∧ (parseMethodDescriptor yX10_scraping.desc).map (fun d => d.parameters.length) = some 2 := by decide +kernel
theorem cd_X10_through : Cond.code yX10_through cX10_through 4 (some .int) ∈ tz := tz_in 735 (by decide +kernel) (by decide +kernel)
theorem im_X10_through : Cond.instanceMethod yX10_through ∈ tz := tz_in 733 (by decide +kernel) (by decide +kernel)
theorem se_X10_through : Cond.selects RX10 yX10_through yX10_through ∈ tz := tz_in 734 (by decide +kernel) (by decide +kernel)
theorem hc_X10_through : yX10_through.cls = RX10 ∧ yX10_through.cls ≠ "java/lang/invoke/MethodHandle" ∧ yX10_through.cls ≠ "java/lang/invoke/VarHandle" ∧ (parseMethodDescriptor yX10_through.desc).map (fun d => d.parameters.length) = some 2 := by decide +kernel
theorem cd_X10_over : Cond.code yX10_over cX10_over 3 (some .int) ∈ tz := tz_in 762 (by decide +kernel) (by decide +kernel)
theorem im_X10_over : Cond.instanceMethod yX10_over ∈ tz := tz_in 760 (by decide +kernel) (by decide +kernel)
theorem se_X10_over : Cond.selects RX10 yX10_over yX10_over ∈ tz := tz_in 761 (by decide +kernel) (by decide +kernel)
theorem hc_X10_over : yX10_over.cls = RX10 ∧ yX10_over.cls ≠ "java/lang/invoke/MethodHandle" ∧ yX10_over.cls ≠ "java/lang/invoke/VarHandle" ∧ (parseMethodDescriptor yX10_over.desc).map (fun d => d.parameters.length) = some 2 := by decide +kernel
theorem cd_X10_quiet : Cond.code yX10_quiet cX10_quiet 6 (some .int) ∈ tz := tz_in 773 (by decide +kernel) (by decide +kernel)
theorem im_X10_quiet : Cond.instanceMethod yX10_quiet ∈ tz := tz_in 771 (by decide +kernel) (by decide +kernel)
theorem se_X10_quiet : Cond.selects RX10 yX10_quiet yX10_quiet ∈ tz := tz_in 772 (by decide +kernel) (by decide +kernel)
theorem hc_X10_quiet : yX10_quiet.cls = RX10 ∧ yX10_quiet.cls ≠ "java/lang/invoke/MethodHandle" ∧ yX10_quiet.cls ≠ "java/lang/invoke/VarHandle" ∧ (parseMethodDescriptor yX10_quiet.desc).map (fun d => d.parameters.length) = some 2 := by decide +kernel
theorem cd_X10_hear : Cond.code yX10_hear cX10_hear 4 (some .int) ∈ tz := tz_in 779 (by decide +kernel) (by decide +kernel)
theorem im_X10_hear : Cond.instanceMethod yX10_hear ∈ tz := tz_in 777 (by decide +kernel) (by decide +kernel)
theorem se_X10_hear : Cond.selects RX10 yX10_hear yX10_hear ∈ tz := tz_in 778 (by decide +kernel) (by decide +kernel)
theorem hc_X10_hear : yX10_hear.cls = RX10 ∧ yX10_hear.cls ≠ "java/lang/invoke/MethodHandle" ∧ yX10_hear.cls ≠ "java/lang/invoke/VarHandle" ∧ (parseMethodDescriptor yX10_hear.desc).map (fun d => d.parameters.length) = some 3 := by decide +kernel
theorem cd_X10_stays : Cond.code yX10_stays cX10_stays 4 (some .int) ∈ tz := tz_in 787 (by decide +kernel) (by decide +kernel)
theorem im_X10_stays : Cond.instanceMethod yX10_stays ∈ tz := tz_in 785 (by decide +kernel) (by decide +kernel)
theorem se_X10_stays : Cond.selects RX10 yX10_stays yX10_stays ∈ tz := tz_in 786 (by decide +kernel) (by decide +kernel)
theorem hc_X10_stays : yX10_stays.cls = RX10 ∧ yX10_stays.cls ≠ "java/lang/invoke/MethodHandle" ∧ yX10_stays.cls ≠ "java/lang/invoke/VarHandle" ∧ (parseMethodDescriptor yX10_stays.desc).map (fun d => d.parameters.length) = some 2 := by decide +kernel
theorem cd_X10_ask : Cond.code yX10_ask cX10_ask 3 (some .int) ∈ tz := tz_in 801 (by decide +kernel) (by decide +kernel)
theorem im_X10_ask : Cond.instanceMethod yX10_ask ∈ tz := tz_in 799 (by decide +kernel) (by decide +kernel)
theorem se_X10_ask : Cond.selects RX10 yX10_ask yX10_ask ∈ tz := tz_in 800 (by decide +kernel) (by decide +kernel)
theorem hc_X10_ask : yX10_ask.cls = RX10 ∧ yX10_ask.cls ≠ "java/lang/invoke/MethodHandle" ∧ yX10_ask.cls ≠ "java/lang/invoke/VarHandle" ∧ (parseMethodDescriptor yX10_ask.desc).map (fun d => d.parameters.length) = some 1 := by decide +kernel
theorem cd_X10_write : Cond.code yX10_write cX10_write 3 (some .int) ∈ tz := tz_in 818 (by decide +kernel) (by decide +kernel)
theorem im_X10_write : Cond.instanceMethod yX10_write ∈ tz := tz_in 816 (by decide +kernel) (by decide +kernel)
theorem se_X10_write : Cond.selects RX10 yX10_write yX10_write ∈ tz := tz_in 817 (by decide +kernel) (by decide +kernel)
theorem hc_X10_write : yX10_write.cls = RX10 ∧ yX10_write.cls ≠ "java/lang/invoke/MethodHandle" ∧ yX10_write.cls ≠ "java/lang/invoke/VarHandle" ∧ (parseMethodDescriptor yX10_write.desc).map (fun d => d.parameters.length) = some 2 := by decide +kernel
theorem cd_X10_tear : Cond.code yX10_tear cX10_tear 2 (some .int) ∈ tz := tz_in 827 (by decide +kernel) (by decide +kernel)
theorem im_X10_tear : Cond.instanceMethod yX10_tear ∈ tz := tz_in 825 (by decide +kernel) (by decide +kernel)
theorem se_X10_tear : Cond.selects RX10 yX10_tear yX10_tear ∈ tz := tz_in 826 (by decide +kernel) (by decide +kernel)
theorem hc_X10_tear : yX10_tear.cls = RX10 ∧ yX10_tear.cls ≠ "java/lang/invoke/MethodHandle" ∧ yX10_tear.cls ≠ "java/lang/invoke/VarHandle" ∧ (parseMethodDescriptor yX10_tear.desc).map (fun d => d.parameters.length) = some 0 := by decide +kernel
theorem cd_X10_judge : Cond.code yX10_judge cX10_judge 1 (some .int) ∈ tz := tz_in 831 (by decide +kernel) (by decide +kernel)
theorem im_X10_judge : Cond.instanceMethod yX10_judge ∈ tz := tz_in 829 (by decide +kernel) (by decide +kernel)
theorem se_X10_judge : Cond.selects RX10 yX10_judge yX10_judge ∈ tz := tz_in 830 (by decide +kernel) (by decide +kernel)
theorem hc_X10_judge : yX10_judge.cls = RX10 ∧ yX10_judge.cls ≠ "java/lang/invoke/MethodHandle" ∧ yX10_judge.cls ≠ "java/lang/invoke/VarHandle" ∧ (parseMethodDescriptor yX10_judge.desc).map (fun d => d.parameters.length) = some 0 := by decide +kernel
theorem cd_X10_seed : Cond.code yX10_seed cX10_seed 3 (some .int) ∈ tz := tz_in 839 (by decide +kernel) (by decide +kernel)
theorem im_X10_seed : Cond.instanceMethod yX10_seed ∈ tz := tz_in 837 (by decide +kernel) (by decide +kernel)
theorem se_X10_seed : Cond.selects RX10 yX10_seed yX10_seed ∈ tz := tz_in 838 (by decide +kernel) (by decide +kernel)
theorem hc_X10_seed : yX10_seed.cls = RX10 ∧ yX10_seed.cls ≠ "java/lang/invoke/MethodHandle" ∧ yX10_seed.cls ≠ "java/lang/invoke/VarHandle" ∧ (parseMethodDescriptor yX10_seed.desc).map (fun d => d.parameters.length) = some 1 := by decide +kernel
theorem cd_X10_keep : Cond.code yX10_keep cX10_keep 2 (some .int) ∈ tz := tz_in 843 (by decide +kernel) (by decide +kernel)
theorem im_X10_keep : Cond.instanceMethod yX10_keep ∈ tz := tz_in 841 (by decide +kernel) (by decide +kernel)
theorem se_X10_keep : Cond.selects RX10 yX10_keep yX10_keep ∈ tz := tz_in 842 (by decide +kernel) (by decide +kernel)
theorem hc_X10_keep : yX10_keep.cls = RX10 ∧ yX10_keep.cls ≠ "java/lang/invoke/MethodHandle" ∧ yX10_keep.cls ≠ "java/lang/invoke/VarHandle" ∧ (parseMethodDescriptor yX10_keep.desc).map (fun d => d.parameters.length) = some 1 := by decide +kernel
theorem cd_X10_goBack : Cond.code yX10_goBack cX10_goBack 2 (some .int) ∈ tz := tz_in 851 (by decide +kernel) (by decide +kernel)
theorem im_X10_goBack : Cond.instanceMethod yX10_goBack ∈ tz := tz_in 849 (by decide +kernel) (by decide +kernel)
theorem se_X10_goBack : Cond.selects RX10 yX10_goBack yX10_goBack ∈ tz := tz_in 850 (by decide +kernel) (by decide +kernel)
theorem hc_X10_goBack : yX10_goBack.cls = RX10 ∧ yX10_goBack.cls ≠ "java/lang/invoke/MethodHandle" ∧ yX10_goBack.cls ≠ "java/lang/invoke/VarHandle" ∧ (parseMethodDescriptor yX10_goBack.desc).map (fun d => d.parameters.length) = some 1 := by decide +kernel
theorem cd_X10_isOutside : Cond.code yX10_isOutside cX10_isOutside 3 (some .boolean) ∈ tz := tz_in 374 (by decide +kernel) (by decide +kernel)
theorem sm_X10_isOutside : Cond.static yX10_isOutside ∈ tz := tz_in 373 (by decide +kernel) (by decide +kernel)
theorem hc_X10_isOutside : yX10_isOutside.cls ≠ "java/lang/invoke/MethodHandle" ∧ yX10_isOutside.cls ≠ "java/lang/invoke/VarHandle" ∧ (parseMethodDescriptor yX10_isOutside.desc).map (fun d => d.parameters.length) = some 3 := by decide +kernel
theorem cd_X10_refusalOfMonths : Cond.code yX10_refusalOfMonths cX10_refusalOfMonths 2 (some .int) ∈ tz := tz_in 537 (by decide +kernel) (by decide +kernel)
theorem im_X10_refusalOfMonths : Cond.instanceMethod yX10_refusalOfMonths ∈ tz := tz_in 536 (by decide +kernel) (by decide +kernel)
theorem se_X10_refusalOfMonths : Cond.selects RX10 yX10_refusalOfMonths yX10_refusalOfMonths ∈ tz := tz_in 0 (by decide +kernel) (by decide +kernel)
theorem hc_X10_refusalOfMonths : yX10_refusalOfMonths.cls = RX10 ∧ yX10_refusalOfMonths.cls ≠ "java/lang/invoke/MethodHandle" ∧ yX10_refusalOfMonths.cls ≠ "java/lang/invoke/VarHandle" ∧ (parseMethodDescriptor yX10_refusalOfMonths.desc).map (fun d => d.parameters.length) = some 1 := by decide +kernel
theorem cd_X11_within : Cond.code yX11_within cX11_within 6 (some .boolean) ∈ tz := tz_in 1001 (by decide +kernel) (by decide +kernel)
theorem sm_X11_within : Cond.static yX11_within ∈ tz := tz_in 1000 (by decide +kernel) (by decide +kernel)
theorem hc_X11_within : yX11_within.cls ≠ "java/lang/invoke/MethodHandle" ∧ yX11_within.cls ≠ "java/lang/invoke/VarHandle" ∧ (parseMethodDescriptor yX11_within.desc).map (fun d => d.parameters.length) = some 3 := by decide +kernel
theorem cd_X11_has : Cond.code yX11_has cX11_has 2 (some .boolean) ∈ tz := tz_in 1145 (by decide +kernel) (by decide +kernel)
theorem sm_X11_has : Cond.static yX11_has ∈ tz := tz_in 1144 (by decide +kernel) (by decide +kernel)
theorem hc_X11_has : yX11_has.cls ≠ "java/lang/invoke/MethodHandle" ∧ yX11_has.cls ≠ "java/lang/invoke/VarHandle" ∧ (parseMethodDescriptor yX11_has.desc).map (fun d => d.parameters.length) = some 2 := by decide +kernel
theorem cd_X11_ones : Cond.code yX11_ones cX11_ones 3 (some .int) ∈ tz := tz_in 1163 (by decide +kernel) (by decide +kernel)
theorem sm_X11_ones : Cond.static yX11_ones ∈ tz := tz_in 1162 (by decide +kernel) (by decide +kernel)
theorem hc_X11_ones : yX11_ones.cls ≠ "java/lang/invoke/MethodHandle" ∧ yX11_ones.cls ≠ "java/lang/invoke/VarHandle" ∧ (parseMethodDescriptor yX11_ones.desc).map (fun d => d.parameters.length) = some 1 := by decide +kernel
theorem cd_X11_isMan : Cond.code yX11_isMan cX11_isMan 2 (some .boolean) ∈ tz := tz_in 1095 (by decide +kernel) (by decide +kernel)
theorem im_X11_isMan : Cond.instanceMethod yX11_isMan ∈ tz := tz_in 1094 (by decide +kernel) (by decide +kernel)
theorem se_X11_isMan : Cond.selects RX11 yX11_isMan yX11_isMan ∈ tz := tz_in 18 (by decide +kernel) (by decide +kernel)
theorem hc_X11_isMan : yX11_isMan.cls = RX11 ∧ yX11_isMan.cls ≠ "java/lang/invoke/MethodHandle" ∧ yX11_isMan.cls ≠ "java/lang/invoke/VarHandle" ∧ (parseMethodDescriptor yX11_isMan.desc).map (fun d => d.parameters.length) = some 1 := by decide +kernel
theorem cd_X11_isSaying : Cond.code yX11_isSaying cX11_isSaying 2 (some .boolean) ∈ tz := tz_in 1120 (by decide +kernel) (by decide +kernel)
theorem im_X11_isSaying : Cond.instanceMethod yX11_isSaying ∈ tz := tz_in 1119 (by decide +kernel) (by decide +kernel)
theorem se_X11_isSaying : Cond.selects RX11 yX11_isSaying yX11_isSaying ∈ tz := tz_in 21 (by decide +kernel) (by decide +kernel)
theorem hc_X11_isSaying : yX11_isSaying.cls = RX11 ∧ yX11_isSaying.cls ≠ "java/lang/invoke/MethodHandle" ∧ yX11_isSaying.cls ≠ "java/lang/invoke/VarHandle" ∧ (parseMethodDescriptor yX11_isSaying.desc).map (fun d => d.parameters.length) = some 1 := by decide +kernel
theorem cd_X11_areSayings : Cond.code yX11_areSayings cX11_areSayings 2 (some .boolean) ∈ tz := tz_in 1228 (by decide +kernel) (by decide +kernel)
theorem im_X11_areSayings : Cond.instanceMethod yX11_areSayings ∈ tz := tz_in 1227 (by decide +kernel) (by decide +kernel)
theorem se_X11_areSayings : Cond.selects RX11 yX11_areSayings yX11_areSayings ∈ tz := tz_in 31 (by decide +kernel) (by decide +kernel)
theorem hc_X11_areSayings : yX11_areSayings.cls = RX11 ∧ yX11_areSayings.cls ≠ "java/lang/invoke/MethodHandle" ∧ yX11_areSayings.cls ≠ "java/lang/invoke/VarHandle" ∧ (parseMethodDescriptor yX11_areSayings.desc).map (fun d => d.parameters.length) = some 1 := by decide +kernel
theorem cd_X11_isPlace : Cond.code yX11_isPlace cX11_isPlace 1 (some .boolean) ∈ tz := tz_in 1111 (by decide +kernel) (by decide +kernel)
theorem sm_X11_isPlace : Cond.static yX11_isPlace ∈ tz := tz_in 1110 (by decide +kernel) (by decide +kernel)
theorem hc_X11_isPlace : yX11_isPlace.cls ≠ "java/lang/invoke/MethodHandle" ∧ yX11_isPlace.cls ≠ "java/lang/invoke/VarHandle" ∧ (parseMethodDescriptor yX11_isPlace.desc).map (fun d => d.parameters.length) = some 1 := by decide +kernel
theorem cd_X11_feed : Cond.code yX11_feed cX11_feed 2 (some .int) ∈ tz := tz_in 997 (by decide +kernel) (by decide +kernel)
theorem im_X11_feed : Cond.instanceMethod yX11_feed ∈ tz := tz_in 995 (by decide +kernel) (by decide +kernel)
theorem se_X11_feed : Cond.selects RX11 yX11_feed yX11_feed ∈ tz := tz_in 996 (by decide +kernel) (by decide +kernel)
theorem hc_X11_feed : yX11_feed.cls = RX11 ∧ yX11_feed.cls ≠ "java/lang/invoke/MethodHandle" ∧ yX11_feed.cls ≠ "java/lang/invoke/VarHandle" ∧ (parseMethodDescriptor yX11_feed.desc).map (fun d => d.parameters.length) = some 1 := by decide +kernel
theorem cd_X11_here : Cond.code yX11_here cX11_here 1 (some .int) ∈ tz := tz_in 1011 (by decide +kernel) (by decide +kernel)
theorem im_X11_here : Cond.instanceMethod yX11_here ∈ tz := tz_in 1010 (by decide +kernel) (by decide +kernel)
theorem se_X11_here : Cond.selects RX11 yX11_here yX11_here ∈ tz := tz_in 1 (by decide +kernel) (by decide +kernel)
theorem hc_X11_here : yX11_here.cls = RX11 ∧ yX11_here.cls ≠ "java/lang/invoke/MethodHandle" ∧ yX11_here.cls ≠ "java/lang/invoke/VarHandle" ∧ (parseMethodDescriptor yX11_here.desc).map (fun d => d.parameters.length) = some 0 := by decide +kernel
theorem cd_X11_fails : Cond.code yX11_fails cX11_fails 3 (some .int) ∈ tz := tz_in 1019 (by decide +kernel) (by decide +kernel)
theorem im_X11_fails : Cond.instanceMethod yX11_fails ∈ tz := tz_in 1018 (by decide +kernel) (by decide +kernel)
theorem se_X11_fails : Cond.selects RX11 yX11_fails yX11_fails ∈ tz := tz_in 3 (by decide +kernel) (by decide +kernel)
theorem hc_X11_fails : yX11_fails.cls = RX11 ∧ yX11_fails.cls ≠ "java/lang/invoke/MethodHandle" ∧ yX11_fails.cls ≠ "java/lang/invoke/VarHandle" ∧ (parseMethodDescriptor yX11_fails.desc).map (fun d => d.parameters.length) = some 2 := by decide +kernel
theorem cd_X11_takeNumber : Cond.code yX11_takeNumber cX11_takeNumber 4 (some .int) ∈ tz := tz_in 1035 (by decide +kernel) (by decide +kernel)
theorem im_X11_takeNumber : Cond.instanceMethod yX11_takeNumber ∈ tz := tz_in 1034 (by decide +kernel) (by decide +kernel)
theorem se_X11_takeNumber : Cond.selects RX11 yX11_takeNumber yX11_takeNumber ∈ tz := tz_in 7 (by decide +kernel) (by decide +kernel)
theorem hc_X11_takeNumber : yX11_takeNumber.cls = RX11 ∧ yX11_takeNumber.cls ≠ "java/lang/invoke/MethodHandle" ∧ yX11_takeNumber.cls ≠ "java/lang/invoke/VarHandle" ∧ (parseMethodDescriptor yX11_takeNumber.desc).map (fun d => d.parameters.length) = some 2 := by decide +kernel
theorem cd_X11_takePits : Cond.code yX11_takePits cX11_takePits 3 (some .int) ∈ tz := tz_in 1031 (by decide +kernel) (by decide +kernel)
theorem im_X11_takePits : Cond.instanceMethod yX11_takePits ∈ tz := tz_in 1030 (by decide +kernel) (by decide +kernel)
theorem se_X11_takePits : Cond.selects RX11 yX11_takePits yX11_takePits ∈ tz := tz_in 6 (by decide +kernel) (by decide +kernel)
theorem hc_X11_takePits : yX11_takePits.cls = RX11 ∧ yX11_takePits.cls ≠ "java/lang/invoke/MethodHandle" ∧ yX11_takePits.cls ≠ "java/lang/invoke/VarHandle" ∧ (parseMethodDescriptor yX11_takePits.desc).map (fun d => d.parameters.length) = some 0 := by decide +kernel
theorem cd_X11_takeMan : Cond.code yX11_takeMan cX11_takeMan 3 (some .int) ∈ tz := tz_in 1041 (by decide +kernel) (by decide +kernel)
theorem im_X11_takeMan : Cond.instanceMethod yX11_takeMan ∈ tz := tz_in 1040 (by decide +kernel) (by decide +kernel)
theorem se_X11_takeMan : Cond.selects RX11 yX11_takeMan yX11_takeMan ∈ tz := tz_in 8 (by decide +kernel) (by decide +kernel)
theorem hc_X11_takeMan : yX11_takeMan.cls = RX11 ∧ yX11_takeMan.cls ≠ "java/lang/invoke/MethodHandle" ∧ yX11_takeMan.cls ≠ "java/lang/invoke/VarHandle" ∧ (parseMethodDescriptor yX11_takeMan.desc).map (fun d => d.parameters.length) = some 0 := by decide +kernel
theorem cd_X11_takeSaying : Cond.code yX11_takeSaying cX11_takeSaying 2 (some .int) ∈ tz := tz_in 1045 (by decide +kernel) (by decide +kernel)
theorem im_X11_takeSaying : Cond.instanceMethod yX11_takeSaying ∈ tz := tz_in 1044 (by decide +kernel) (by decide +kernel)
theorem se_X11_takeSaying : Cond.selects RX11 yX11_takeSaying yX11_takeSaying ∈ tz := tz_in 9 (by decide +kernel) (by decide +kernel)
theorem hc_X11_takeSaying : yX11_takeSaying.cls = RX11 ∧ yX11_takeSaying.cls ≠ "java/lang/invoke/MethodHandle" ∧ yX11_takeSaying.cls ≠ "java/lang/invoke/VarHandle" ∧ (parseMethodDescriptor yX11_takeSaying.desc).map (fun d => d.parameters.length) = some 0 := by decide +kernel
theorem cd_X11_isFull : Cond.code yX11_isFull cX11_isFull 2 (some .boolean) ∈ tz := tz_in 1023 (by decide +kernel) (by decide +kernel)
theorem im_X11_isFull : Cond.instanceMethod yX11_isFull ∈ tz := tz_in 1022 (by decide +kernel) (by decide +kernel)
theorem se_X11_isFull : Cond.selects RX11 yX11_isFull yX11_isFull ∈ tz := tz_in 4 (by decide +kernel) (by decide +kernel)
theorem hc_X11_isFull : yX11_isFull.cls = RX11 ∧ yX11_isFull.cls ≠ "java/lang/invoke/MethodHandle" ∧ yX11_isFull.cls ≠ "java/lang/invoke/VarHandle" ∧ (parseMethodDescriptor yX11_isFull.desc).map (fun d => d.parameters.length) = some 1 := by decide +kernel
theorem cd_X11_takeBody : Cond.code yX11_takeBody cX11_takeBody 2 (some .int) ∈ tz := tz_in 1027 (by decide +kernel) (by decide +kernel)
theorem im_X11_takeBody : Cond.instanceMethod yX11_takeBody ∈ tz := tz_in 1026 (by decide +kernel) (by decide +kernel)
theorem se_X11_takeBody : Cond.selects RX11 yX11_takeBody yX11_takeBody ∈ tz := tz_in 5 (by decide +kernel) (by decide +kernel)
theorem hc_X11_takeBody : yX11_takeBody.cls = RX11 ∧ yX11_takeBody.cls ≠ "java/lang/invoke/MethodHandle" ∧ yX11_takeBody.cls ≠ "java/lang/invoke/VarHandle" ∧ (parseMethodDescriptor yX11_takeBody.desc).map (fun d => d.parameters.length) = some 1 := by decide +kernel
theorem cd_X11_takeClause : Cond.code yX11_takeClause cX11_takeClause 4 (some .int) ∈ tz := tz_in 1015 (by decide +kernel) (by decide +kernel)
theorem im_X11_takeClause : Cond.instanceMethod yX11_takeClause ∈ tz := tz_in 1014 (by decide +kernel) (by decide +kernel)
theorem se_X11_takeClause : Cond.selects RX11 yX11_takeClause yX11_takeClause ∈ tz := tz_in 2 (by decide +kernel) (by decide +kernel)
theorem hc_X11_takeClause : yX11_takeClause.cls = RX11 ∧ yX11_takeClause.cls ≠ "java/lang/invoke/MethodHandle" ∧ yX11_takeClause.cls ≠ "java/lang/invoke/VarHandle" ∧ (parseMethodDescriptor yX11_takeClause.desc).map (fun d => d.parameters.length) = some 0 := by decide +kernel
theorem cd_X11_takeRead : Cond.code yX11_takeRead cX11_takeRead 2 none ∈ tz := tz_in 1049 (by decide +kernel) (by decide +kernel)
theorem im_X11_takeRead : Cond.instanceMethod yX11_takeRead ∈ tz := tz_in 1048 (by decide +kernel) (by decide +kernel)
theorem se_X11_takeRead : Cond.selects RX11 yX11_takeRead yX11_takeRead ∈ tz := tz_in 10 (by decide +kernel) (by decide +kernel)
theorem hc_X11_takeRead : yX11_takeRead.cls = RX11 ∧ yX11_takeRead.cls ≠ "java/lang/invoke/MethodHandle" ∧ yX11_takeRead.cls ≠ "java/lang/invoke/VarHandle" ∧ (parseMethodDescriptor yX11_takeRead.desc).map (fun d => d.parameters.length) = some 0 := by decide +kernel
theorem cd_X11_yard : Cond.code yX11_yard cX11_yard 2 (some .int) ∈ tz := tz_in 1007 (by decide +kernel) (by decide +kernel)
theorem im_X11_yard : Cond.instanceMethod yX11_yard ∈ tz := tz_in 1005 (by decide +kernel) (by decide +kernel)
theorem se_X11_yard : Cond.selects RX11 yX11_yard yX11_yard ∈ tz := tz_in 1006 (by decide +kernel) (by decide +kernel)
theorem hc_X11_yard : yX11_yard.cls = RX11 ∧ yX11_yard.cls ≠ "java/lang/invoke/MethodHandle" ∧ yX11_yard.cls ≠ "java/lang/invoke/VarHandle" ∧ (parseMethodDescriptor yX11_yard.desc).map (fun d => d.parameters.length) = some 0 := by decide +kernel
theorem cd_X11_fault : Cond.code yX11_fault cX11_fault 1 (some .int) ∈ tz := tz_in 1053 (by decide +kernel) (by decide +kernel)
theorem im_X11_fault : Cond.instanceMethod yX11_fault ∈ tz := tz_in 1051 (by decide +kernel) (by decide +kernel)
theorem se_X11_fault : Cond.selects RX11 yX11_fault yX11_fault ∈ tz := tz_in 1052 (by decide +kernel) (by decide +kernel)
theorem hc_X11_fault : yX11_fault.cls = RX11 ∧ yX11_fault.cls ≠ "java/lang/invoke/MethodHandle" ∧ yX11_fault.cls ≠ "java/lang/invoke/VarHandle" ∧ (parseMethodDescriptor yX11_fault.desc).map (fun d => d.parameters.length) = some 0 := by decide +kernel
theorem cd_X11_capped : Cond.code yX11_capped cX11_capped 1 (some .int) ∈ tz := tz_in 1152 (by decide +kernel) (by decide +kernel)
theorem sm_X11_capped : Cond.static yX11_capped ∈ tz := tz_in 1151 (by decide +kernel) (by decide +kernel)
theorem hc_X11_capped : yX11_capped.cls ≠ "java/lang/invoke/MethodHandle" ∧ yX11_capped.cls ≠ "java/lang/invoke/VarHandle" ∧ (parseMethodDescriptor yX11_capped.desc).map (fun d => d.parameters.length) = some 1 := by decide +kernel
theorem cd_X11_tans : Cond.code yX11_tans cX11_tans 7 none ∈ tz := tz_in 1149 (by decide +kernel) (by decide +kernel)
theorem im_X11_tans : Cond.instanceMethod yX11_tans ∈ tz := tz_in 1148 (by decide +kernel) (by decide +kernel)
theorem se_X11_tans : Cond.selects RX11 yX11_tans yX11_tans ∈ tz := tz_in 25 (by decide +kernel) (by decide +kernel)
theorem hc_X11_tans : yX11_tans.cls = RX11 ∧ yX11_tans.cls ≠ "java/lang/invoke/MethodHandle" ∧ yX11_tans.cls ≠ "java/lang/invoke/VarHandle" ∧ (parseMethodDescriptor yX11_tans.desc).map (fun d => d.parameters.length) = some 3 := by decide +kernel
theorem cd_X11_takesSkin : Cond.code yX11_takesSkin cX11_takesSkin 3 none ∈ tz := tz_in 1074 (by decide +kernel) (by decide +kernel)
theorem im_X11_takesSkin : Cond.instanceMethod yX11_takesSkin ∈ tz := tz_in 1073 (by decide +kernel) (by decide +kernel)
theorem se_X11_takesSkin : Cond.selects RX11 yX11_takesSkin yX11_takesSkin ∈ tz := tz_in 14 (by decide +kernel) (by decide +kernel)
theorem hc_X11_takesSkin : yX11_takesSkin.cls = RX11 ∧ yX11_takesSkin.cls ≠ "java/lang/invoke/MethodHandle" ∧ yX11_takesSkin.cls ≠ "java/lang/invoke/VarHandle" ∧ (parseMethodDescriptor yX11_takesSkin.desc).map (fun d => d.parameters.length) = some 1 := by decide +kernel
theorem cd_X11_takesFirst : Cond.code yX11_takesFirst cX11_takesFirst 3 none ∈ tz := tz_in 1268 (by decide +kernel) (by decide +kernel)
theorem im_X11_takesFirst : Cond.instanceMethod yX11_takesFirst ∈ tz := tz_in 1267 (by decide +kernel) (by decide +kernel)
theorem se_X11_takesFirst : Cond.selects RX11 yX11_takesFirst yX11_takesFirst ∈ tz := tz_in 34 (by decide +kernel) (by decide +kernel)
theorem hc_X11_takesFirst : yX11_takesFirst.cls = RX11 ∧ yX11_takesFirst.cls ≠ "java/lang/invoke/MethodHandle" ∧ yX11_takesFirst.cls ≠ "java/lang/invoke/VarHandle" ∧ (parseMethodDescriptor yX11_takesFirst.desc).map (fun d => d.parameters.length) = some 1 := by decide +kernel
theorem cd_X11_hurts : Cond.code yX11_hurts cX11_hurts 3 (some .int) ∈ tz := tz_in 1078 (by decide +kernel) (by decide +kernel)
theorem im_X11_hurts : Cond.instanceMethod yX11_hurts ∈ tz := tz_in 1077 (by decide +kernel) (by decide +kernel)
theorem se_X11_hurts : Cond.selects RX11 yX11_hurts yX11_hurts ∈ tz := tz_in 15 (by decide +kernel) (by decide +kernel)
theorem hc_X11_hurts : yX11_hurts.cls = RX11 ∧ yX11_hurts.cls ≠ "java/lang/invoke/MethodHandle" ∧ yX11_hurts.cls ≠ "java/lang/invoke/VarHandle" ∧ (parseMethodDescriptor yX11_hurts.desc).map (fun d => d.parameters.length) = some 1 := by decide +kernel
theorem cd_X11_borneNow : Cond.code yX11_borneNow cX11_borneNow 3 (some .int) ∈ tz := tz_in 1100 (by decide +kernel) (by decide +kernel)
theorem im_X11_borneNow : Cond.instanceMethod yX11_borneNow ∈ tz := tz_in 1099 (by decide +kernel) (by decide +kernel)
theorem se_X11_borneNow : Cond.selects RX11 yX11_borneNow yX11_borneNow ∈ tz := tz_in 19 (by decide +kernel) (by decide +kernel)
theorem hc_X11_borneNow : yX11_borneNow.cls = RX11 ∧ yX11_borneNow.cls ≠ "java/lang/invoke/MethodHandle" ∧ yX11_borneNow.cls ≠ "java/lang/invoke/VarHandle" ∧ (parseMethodDescriptor yX11_borneNow.desc).map (fun d => d.parameters.length) = some 0 := by decide +kernel
theorem cd_X11_feltNow : Cond.code yX11_feltNow cX11_feltNow 3 (some .int) ∈ tz := tz_in 1104 (by decide +kernel) (by decide +kernel)
theorem im_X11_feltNow : Cond.instanceMethod yX11_feltNow ∈ tz := tz_in 1103 (by decide +kernel) (by decide +kernel)
theorem se_X11_feltNow : Cond.selects RX11 yX11_feltNow yX11_feltNow ∈ tz := tz_in 20 (by decide +kernel) (by decide +kernel)
theorem hc_X11_feltNow : yX11_feltNow.cls = RX11 ∧ yX11_feltNow.cls ≠ "java/lang/invoke/MethodHandle" ∧ yX11_feltNow.cls ≠ "java/lang/invoke/VarHandle" ∧ (parseMethodDescriptor yX11_feltNow.desc).map (fun d => d.parameters.length) = some 0 := by decide +kernel
theorem cd_X11_hurtOf : Cond.code yX11_hurtOf cX11_hurtOf 3 (some .int) ∈ tz := tz_in 1070 (by decide +kernel) (by decide +kernel)
theorem im_X11_hurtOf : Cond.instanceMethod yX11_hurtOf ∈ tz := tz_in 1069 (by decide +kernel) (by decide +kernel)
theorem se_X11_hurtOf : Cond.selects RX11 yX11_hurtOf yX11_hurtOf ∈ tz := tz_in 13 (by decide +kernel) (by decide +kernel)
theorem hc_X11_hurtOf : yX11_hurtOf.cls = RX11 ∧ yX11_hurtOf.cls ≠ "java/lang/invoke/MethodHandle" ∧ yX11_hurtOf.cls ≠ "java/lang/invoke/VarHandle" ∧ (parseMethodDescriptor yX11_hurtOf.desc).map (fun d => d.parameters.length) = some 2 := by decide +kernel
theorem cd_X11_woundsAll : Cond.code yX11_woundsAll cX11_woundsAll 3 (some .int) ∈ tz := tz_in 1061 (by decide +kernel) (by decide +kernel)
theorem im_X11_woundsAll : Cond.instanceMethod yX11_woundsAll ∈ tz := tz_in 1060 (by decide +kernel) (by decide +kernel)
theorem se_X11_woundsAll : Cond.selects RX11 yX11_woundsAll yX11_woundsAll ∈ tz := tz_in 11 (by decide +kernel) (by decide +kernel)
theorem hc_X11_woundsAll : yX11_woundsAll.cls = RX11 ∧ yX11_woundsAll.cls ≠ "java/lang/invoke/MethodHandle" ∧ yX11_woundsAll.cls ≠ "java/lang/invoke/VarHandle" ∧ (parseMethodDescriptor yX11_woundsAll.desc).map (fun d => d.parameters.length) = some 0 := by decide +kernel
theorem cd_X11_bestMan : Cond.code yX11_bestMan cX11_bestMan 6 (some .int) ∈ tz := tz_in 1065 (by decide +kernel) (by decide +kernel)
theorem im_X11_bestMan : Cond.instanceMethod yX11_bestMan ∈ tz := tz_in 1064 (by decide +kernel) (by decide +kernel)
theorem se_X11_bestMan : Cond.selects RX11 yX11_bestMan yX11_bestMan ∈ tz := tz_in 12 (by decide +kernel) (by decide +kernel)
theorem hc_X11_bestMan : yX11_bestMan.cls = RX11 ∧ yX11_bestMan.cls ≠ "java/lang/invoke/MethodHandle" ∧ yX11_bestMan.cls ≠ "java/lang/invoke/VarHandle" ∧ (parseMethodDescriptor yX11_bestMan.desc).map (fun d => d.parameters.length) = some 0 := by decide +kernel
theorem cd_X11_chosen : Cond.code yX11_chosen cX11_chosen 6 (some .int) ∈ tz := tz_in 1082 (by decide +kernel) (by decide +kernel)
theorem im_X11_chosen : Cond.instanceMethod yX11_chosen ∈ tz := tz_in 1081 (by decide +kernel) (by decide +kernel)
theorem se_X11_chosen : Cond.selects RX11 yX11_chosen yX11_chosen ∈ tz := tz_in 16 (by decide +kernel) (by decide +kernel)
theorem hc_X11_chosen : yX11_chosen.cls = RX11 ∧ yX11_chosen.cls ≠ "java/lang/invoke/MethodHandle" ∧ yX11_chosen.cls ≠ "java/lang/invoke/VarHandle" ∧ (parseMethodDescriptor yX11_chosen.desc).map (fun d => d.parameters.length) = some 0 := by decide +kernel
theorem cd_X11_tender : Cond.code yX11_tender cX11_tender 5 (some .int) ∈ tz := tz_in 1086 (by decide +kernel) (by decide +kernel)
theorem im_X11_tender : Cond.instanceMethod yX11_tender ∈ tz := tz_in 1085 (by decide +kernel) (by decide +kernel)
theorem se_X11_tender : Cond.selects RX11 yX11_tender yX11_tender ∈ tz := tz_in 17 (by decide +kernel) (by decide +kernel)
theorem hc_X11_tender : yX11_tender.cls = RX11 ∧ yX11_tender.cls ≠ "java/lang/invoke/MethodHandle" ∧ yX11_tender.cls ≠ "java/lang/invoke/VarHandle" ∧ (parseMethodDescriptor yX11_tender.desc).map (fun d => d.parameters.length) = some 0 := by decide +kernel
theorem cd_X11_told : Cond.code yX11_told cX11_told 2 (some .int) ∈ tz := tz_in 1057 (by decide +kernel) (by decide +kernel)
theorem im_X11_told : Cond.instanceMethod yX11_told ∈ tz := tz_in 1055 (by decide +kernel) (by decide +kernel)
theorem se_X11_told : Cond.selects RX11 yX11_told yX11_told ∈ tz := tz_in 1056 (by decide +kernel) (by decide +kernel)
theorem hc_X11_told : yX11_told.cls = RX11 ∧ yX11_told.cls ≠ "java/lang/invoke/MethodHandle" ∧ yX11_told.cls ≠ "java/lang/invoke/VarHandle" ∧ (parseMethodDescriptor yX11_told.desc).map (fun d => d.parameters.length) = some 1 := by decide +kernel
theorem cd_X11_man : Cond.code yX11_man cX11_man 3 (some .int) ∈ tz := tz_in 1091 (by decide +kernel) (by decide +kernel)
theorem im_X11_man : Cond.instanceMethod yX11_man ∈ tz := tz_in 1089 (by decide +kernel) (by decide +kernel)
theorem se_X11_man : Cond.selects RX11 yX11_man yX11_man ∈ tz := tz_in 1090 (by decide +kernel) (by decide +kernel)
theorem hc_X11_man : yX11_man.cls = RX11 ∧ yX11_man.cls ≠ "java/lang/invoke/MethodHandle" ∧ yX11_man.cls ≠ "java/lang/invoke/VarHandle" ∧ (parseMethodDescriptor yX11_man.desc).map (fun d => d.parameters.length) = some 2 := by decide +kernel
theorem cd_X11_skin : Cond.code yX11_skin cX11_skin 4 (some .int) ∈ tz := tz_in 1108 (by decide +kernel) (by decide +kernel)
theorem im_X11_skin : Cond.instanceMethod yX11_skin ∈ tz := tz_in 1106 (by decide +kernel) (by decide +kernel)
theorem se_X11_skin : Cond.selects RX11 yX11_skin yX11_skin ∈ tz := tz_in 1107 (by decide +kernel) (by decide +kernel)
theorem hc_X11_skin : yX11_skin.cls = RX11 ∧ yX11_skin.cls ≠ "java/lang/invoke/MethodHandle" ∧ yX11_skin.cls ≠ "java/lang/invoke/VarHandle" ∧ (parseMethodDescriptor yX11_skin.desc).map (fun d => d.parameters.length) = some 3 := by decide +kernel
theorem cd_X11_saying : Cond.code yX11_saying cX11_saying 3 (some .int) ∈ tz := tz_in 1116 (by decide +kernel) (by decide +kernel)
theorem im_X11_saying : Cond.instanceMethod yX11_saying ∈ tz := tz_in 1114 (by decide +kernel) (by decide +kernel)
theorem se_X11_saying : Cond.selects RX11 yX11_saying yX11_saying ∈ tz := tz_in 1115 (by decide +kernel) (by decide +kernel)
theorem hc_X11_saying : yX11_saying.cls = RX11 ∧ yX11_saying.cls ≠ "java/lang/invoke/MethodHandle" ∧ yX11_saying.cls ≠ "java/lang/invoke/VarHandle" ∧ (parseMethodDescriptor yX11_saying.desc).map (fun d => d.parameters.length) = some 2 := by decide +kernel
theorem cd_X11_hurt : Cond.code yX11_hurt cX11_hurt 3 (some .int) ∈ tz := tz_in 1124 (by decide +kernel) (by decide +kernel)
theorem im_X11_hurt : Cond.instanceMethod yX11_hurt ∈ tz := tz_in 1122 (by decide +kernel) (by decide +kernel)
theorem se_X11_hurt : Cond.selects RX11 yX11_hurt yX11_hurt ∈ tz := tz_in 1123 (by decide +kernel) (by decide +kernel)
theorem hc_X11_hurt : yX11_hurt.cls = RX11 ∧ yX11_hurt.cls ≠ "java/lang/invoke/MethodHandle" ∧ yX11_hurt.cls ≠ "java/lang/invoke/VarHandle" ∧ (parseMethodDescriptor yX11_hurt.desc).map (fun d => d.parameters.length) = some 2 := by decide +kernel
theorem cd_X11_remember : Cond.code yX11_remember cX11_remember 2 none ∈ tz := tz_in 1138 (by decide +kernel) (by decide +kernel)
theorem im_X11_remember : Cond.instanceMethod yX11_remember ∈ tz := tz_in 1137 (by decide +kernel) (by decide +kernel)
theorem se_X11_remember : Cond.selects RX11 yX11_remember yX11_remember ∈ tz := tz_in 23 (by decide +kernel) (by decide +kernel)
theorem hc_X11_remember : yX11_remember.cls = RX11 ∧ yX11_remember.cls ≠ "java/lang/invoke/MethodHandle" ∧ yX11_remember.cls ≠ "java/lang/invoke/VarHandle" ∧ (parseMethodDescriptor yX11_remember.desc).map (fun d => d.parameters.length) = some 0 := by decide +kernel
theorem cd_X11_passes : Cond.code yX11_passes cX11_passes 3 none ∈ tz := tz_in 1142 (by decide +kernel) (by decide +kernel)
theorem im_X11_passes : Cond.instanceMethod yX11_passes ∈ tz := tz_in 1141 (by decide +kernel) (by decide +kernel)
theorem se_X11_passes : Cond.selects RX11 yX11_passes yX11_passes ∈ tz := tz_in 24 (by decide +kernel) (by decide +kernel)
theorem hc_X11_passes : yX11_passes.cls = RX11 ∧ yX11_passes.cls ≠ "java/lang/invoke/MethodHandle" ∧ yX11_passes.cls ≠ "java/lang/invoke/VarHandle" ∧ (parseMethodDescriptor yX11_passes.desc).map (fun d => d.parameters.length) = some 0 := by decide +kernel
theorem cd_X11_monthsRefused : Cond.code yX11_monthsRefused cX11_monthsRefused 2 (some .int) ∈ tz := tz_in 1132 (by decide +kernel) (by decide +kernel)
theorem im_X11_monthsRefused : Cond.instanceMethod yX11_monthsRefused ∈ tz := tz_in 1131 (by decide +kernel) (by decide +kernel)
theorem se_X11_monthsRefused : Cond.selects RX11 yX11_monthsRefused yX11_monthsRefused ∈ tz := tz_in 22 (by decide +kernel) (by decide +kernel)
theorem hc_X11_monthsRefused : yX11_monthsRefused.cls = RX11 ∧ yX11_monthsRefused.cls ≠ "java/lang/invoke/MethodHandle" ∧ yX11_monthsRefused.cls ≠ "java/lang/invoke/VarHandle" ∧ (parseMethodDescriptor yX11_monthsRefused.desc).map (fun d => d.parameters.length) = some 1 := by decide +kernel
theorem cd_X11_month : Cond.code yX11_month cX11_month 4 (some .int) ∈ tz := tz_in 1128 (by decide +kernel) (by decide +kernel)
theorem im_X11_month : Cond.instanceMethod yX11_month ∈ tz := tz_in 1126 (by decide +kernel) (by decide +kernel)
theorem se_X11_month : Cond.selects RX11 yX11_month yX11_month ∈ tz := tz_in 1127 (by decide +kernel) (by decide +kernel)
theorem hc_X11_month : yX11_month.cls = RX11 ∧ yX11_month.cls ≠ "java/lang/invoke/MethodHandle" ∧ yX11_month.cls ≠ "java/lang/invoke/VarHandle" ∧ (parseMethodDescriptor yX11_month.desc).map (fun d => d.parameters.length) = some 1 := by decide +kernel
theorem cd_X11_free : Cond.code yX11_free cX11_free 1 (some .int) ∈ tz := tz_in 1160 (by decide +kernel) (by decide +kernel)
theorem im_X11_free : Cond.instanceMethod yX11_free ∈ tz := tz_in 1159 (by decide +kernel) (by decide +kernel)
theorem se_X11_free : Cond.selects RX11 yX11_free yX11_free ∈ tz := tz_in 26 (by decide +kernel) (by decide +kernel)
theorem hc_X11_free : yX11_free.cls = RX11 ∧ yX11_free.cls ≠ "java/lang/invoke/MethodHandle" ∧ yX11_free.cls ≠ "java/lang/invoke/VarHandle" ∧ (parseMethodDescriptor yX11_free.desc).map (fun d => d.parameters.length) = some 0 := by decide +kernel
theorem cd_X11_in : Cond.code yX11_in cX11_in 2 (some .int) ∈ tz := tz_in 1156 (by decide +kernel) (by decide +kernel)
theorem im_X11_in : Cond.instanceMethod yX11_in ∈ tz := tz_in 1154 (by decide +kernel) (by decide +kernel)
theorem se_X11_in : Cond.selects RX11 yX11_in yX11_in ∈ tz := tz_in 1155 (by decide +kernel) (by decide +kernel)
theorem hc_X11_in : yX11_in.cls = RX11 ∧ yX11_in.cls ≠ "java/lang/invoke/MethodHandle" ∧ yX11_in.cls ≠ "java/lang/invoke/VarHandle" ∧ (parseMethodDescriptor yX11_in.desc).map (fun d => d.parameters.length) = some 1 := by decide +kernel
theorem cd_X11_out : Cond.code yX11_out cX11_out 2 (some .int) ∈ tz := tz_in 1167 (by decide +kernel) (by decide +kernel)
theorem im_X11_out : Cond.instanceMethod yX11_out ∈ tz := tz_in 1165 (by decide +kernel) (by decide +kernel)
theorem se_X11_out : Cond.selects RX11 yX11_out yX11_out ∈ tz := tz_in 1166 (by decide +kernel) (by decide +kernel)
theorem hc_X11_out : yX11_out.cls = RX11 ∧ yX11_out.cls ≠ "java/lang/invoke/MethodHandle" ∧ yX11_out.cls ≠ "java/lang/invoke/VarHandle" ∧ (parseMethodDescriptor yX11_out.desc).map (fun d => d.parameters.length) = some 1 := by decide +kernel
theorem cd_X11_scrapes : Cond.code yX11_scrapes cX11_scrapes 4 none ∈ tz := tz_in 1176 (by decide +kernel) (by decide +kernel)
theorem im_X11_scrapes : Cond.instanceMethod yX11_scrapes ∈ tz := tz_in 1175 (by decide +kernel) (by decide +kernel)
theorem se_X11_scrapes : Cond.selects RX11 yX11_scrapes yX11_scrapes ∈ tz := tz_in 27 (by decide +kernel) (by decide +kernel)
theorem hc_X11_scrapes : yX11_scrapes.cls = RX11 ∧ yX11_scrapes.cls ≠ "java/lang/invoke/MethodHandle" ∧ yX11_scrapes.cls ≠ "java/lang/invoke/VarHandle" ∧ (parseMethodDescriptor yX11_scrapes.desc).map (fun d => d.parameters.length) = some 3 := by decide +kernel
theorem cd_X11_scrape : Cond.code yX11_scrape cX11_scrape 4 (some .int) ∈ tz := tz_in 1171 (by decide +kernel) (by decide +kernel)
theorem im_X11_scrape : Cond.instanceMethod yX11_scrape ∈ tz := tz_in 1169 (by decide +kernel) (by decide +kernel)
theorem se_X11_scrape : Cond.selects RX11 yX11_scrape yX11_scrape ∈ tz := tz_in 1170 (by decide +kernel) (by decide +kernel)
theorem hc_X11_scrape : yX11_scrape.cls = RX11 ∧ yX11_scrape.cls ≠ "java/lang/invoke/MethodHandle" ∧ yX11_scrape.cls ≠ "java/lang/invoke/VarHandle" ∧ (parseMethodDescriptor yX11_scrape.desc).map (fun d => d.parameters.length) = some 3 := by decide +kernel
theorem cd_X11_wounds : Cond.code yX11_wounds cX11_wounds 4 none ∈ tz := tz_in 1185 (by decide +kernel) (by decide +kernel)
theorem im_X11_wounds : Cond.instanceMethod yX11_wounds ∈ tz := tz_in 1184 (by decide +kernel) (by decide +kernel)
theorem se_X11_wounds : Cond.selects RX11 yX11_wounds yX11_wounds ∈ tz := tz_in 28 (by decide +kernel) (by decide +kernel)
theorem hc_X11_wounds : yX11_wounds.cls = RX11 ∧ yX11_wounds.cls ≠ "java/lang/invoke/MethodHandle" ∧ yX11_wounds.cls ≠ "java/lang/invoke/VarHandle" ∧ (parseMethodDescriptor yX11_wounds.desc).map (fun d => d.parameters.length) = some 2 := by decide +kernel
theorem cd_X11_say : Cond.code yX11_say cX11_say 3 (some .int) ∈ tz := tz_in 1181 (by decide +kernel) (by decide +kernel)
theorem im_X11_say : Cond.instanceMethod yX11_say ∈ tz := tz_in 1179 (by decide +kernel) (by decide +kernel)
theorem se_X11_say : Cond.selects RX11 yX11_say yX11_say ∈ tz := tz_in 1180 (by decide +kernel) (by decide +kernel)
theorem hc_X11_say : yX11_say.cls = RX11 ∧ yX11_say.cls ≠ "java/lang/invoke/MethodHandle" ∧ yX11_say.cls ≠ "java/lang/invoke/VarHandle" ∧ (parseMethodDescriptor yX11_say.desc).map (fun d => d.parameters.length) = some 2 := by decide +kernel
theorem cd_X11_bark : Cond.code yX11_bark cX11_bark 3 (some .int) ∈ tz := tz_in 1190 (by decide +kernel) (by decide +kernel)
theorem im_X11_bark : Cond.instanceMethod yX11_bark ∈ tz := tz_in 1188 (by decide +kernel) (by decide +kernel)
theorem se_X11_bark : Cond.selects RX11 yX11_bark yX11_bark ∈ tz := tz_in 1189 (by decide +kernel) (by decide +kernel)
theorem hc_X11_bark : yX11_bark.cls = RX11 ∧ yX11_bark.cls ≠ "java/lang/invoke/MethodHandle" ∧ yX11_bark.cls ≠ "java/lang/invoke/VarHandle" ∧ (parseMethodDescriptor yX11_bark.desc).map (fun d => d.parameters.length) = some 1 := by decide +kernel
theorem cd_X11_draw : Cond.code yX11_draw cX11_draw 2 (some .int) ∈ tz := tz_in 1203 (by decide +kernel) (by decide +kernel)
theorem im_X11_draw : Cond.instanceMethod yX11_draw ∈ tz := tz_in 1202 (by decide +kernel) (by decide +kernel)
theorem se_X11_draw : Cond.selects RX11 yX11_draw yX11_draw ∈ tz := tz_in 30 (by decide +kernel) (by decide +kernel)
theorem hc_X11_draw : yX11_draw.cls = RX11 ∧ yX11_draw.cls ≠ "java/lang/invoke/MethodHandle" ∧ yX11_draw.cls ≠ "java/lang/invoke/VarHandle" ∧ (parseMethodDescriptor yX11_draw.desc).map (fun d => d.parameters.length) = some 1 := by decide +kernel
theorem cd_X11_chance : Cond.code yX11_chance cX11_chance 4 none ∈ tz := tz_in 1199 (by decide +kernel) (by decide +kernel)
theorem im_X11_chance : Cond.instanceMethod yX11_chance ∈ tz := tz_in 1198 (by decide +kernel) (by decide +kernel)
theorem se_X11_chance : Cond.selects RX11 yX11_chance yX11_chance ∈ tz := tz_in 29 (by decide +kernel) (by decide +kernel)
theorem hc_X11_chance : yX11_chance.cls = RX11 ∧ yX11_chance.cls ≠ "java/lang/invoke/MethodHandle" ∧ yX11_chance.cls ≠ "java/lang/invoke/VarHandle" ∧ (parseMethodDescriptor yX11_chance.desc).map (fun d => d.parameters.length) = some 0 := by decide +kernel
theorem cd_X11_drift : Cond.code yX11_drift cX11_drift 4 (some .int) ∈ tz := tz_in 1195 (by decide +kernel) (by decide +kernel)
theorem im_X11_drift : Cond.instanceMethod yX11_drift ∈ tz := tz_in 1193 (by decide +kernel) (by decide +kernel)
theorem se_X11_drift : Cond.selects RX11 yX11_drift yX11_drift ∈ tz := tz_in 1194 (by decide +kernel) (by decide +kernel)
theorem hc_X11_drift : yX11_drift.cls = RX11 ∧ yX11_drift.cls ≠ "java/lang/invoke/MethodHandle" ∧ yX11_drift.cls ≠ "java/lang/invoke/VarHandle" ∧ (parseMethodDescriptor yX11_drift.desc).map (fun d => d.parameters.length) = some 1 := by decide +kernel
theorem cd_X11_undo : Cond.code yX11_undo cX11_undo 2 (some .int) ∈ tz := tz_in 1211 (by decide +kernel) (by decide +kernel)
theorem im_X11_undo : Cond.instanceMethod yX11_undo ∈ tz := tz_in 1209 (by decide +kernel) (by decide +kernel)
theorem se_X11_undo : Cond.selects RX11 yX11_undo yX11_undo ∈ tz := tz_in 1210 (by decide +kernel) (by decide +kernel)
theorem hc_X11_undo : yX11_undo.cls = RX11 ∧ yX11_undo.cls ≠ "java/lang/invoke/MethodHandle" ∧ yX11_undo.cls ≠ "java/lang/invoke/VarHandle" ∧ (parseMethodDescriptor yX11_undo.desc).map (fun d => d.parameters.length) = some 0 := by decide +kernel
theorem cd_X11_thick : Cond.code yX11_thick cX11_thick 5 (some .int) ∈ tz := tz_in 1215 (by decide +kernel) (by decide +kernel)
theorem im_X11_thick : Cond.instanceMethod yX11_thick ∈ tz := tz_in 1213 (by decide +kernel) (by decide +kernel)
theorem se_X11_thick : Cond.selects RX11 yX11_thick yX11_thick ∈ tz := tz_in 1214 (by decide +kernel) (by decide +kernel)
theorem hc_X11_thick : yX11_thick.cls = RX11 ∧ yX11_thick.cls ≠ "java/lang/invoke/MethodHandle" ∧ yX11_thick.cls ≠ "java/lang/invoke/VarHandle" ∧ (parseMethodDescriptor yX11_thick.desc).map (fun d => d.parameters.length) = some 3 := by decide +kernel
theorem cd_X11_when : Cond.code yX11_when cX11_when 7 (some .int) ∈ tz := tz_in 1220 (by decide +kernel) (by decide +kernel)
theorem im_X11_when : Cond.instanceMethod yX11_when ∈ tz := tz_in 1218 (by decide +kernel) (by decide +kernel)
theorem se_X11_when : Cond.selects RX11 yX11_when yX11_when ∈ tz := tz_in 1219 (by decide +kernel) (by decide +kernel)
theorem hc_X11_when : yX11_when.cls = RX11 ∧ yX11_when.cls ≠ "java/lang/invoke/MethodHandle" ∧ yX11_when.cls ≠ "java/lang/invoke/VarHandle" ∧ (parseMethodDescriptor yX11_when.desc).map (fun d => d.parameters.length) = some 3 := by decide +kernel
theorem cd_X11_edge : Cond.code yX11_edge cX11_edge 9 (some .int) ∈ tz := tz_in 1224 (by decide +kernel) (by decide +kernel)
theorem im_X11_edge : Cond.instanceMethod yX11_edge ∈ tz := tz_in 1222 (by decide +kernel) (by decide +kernel)
theorem se_X11_edge : Cond.selects RX11 yX11_edge yX11_edge ∈ tz := tz_in 1223 (by decide +kernel) (by decide +kernel)
theorem hc_X11_edge : yX11_edge.cls = RX11 ∧ yX11_edge.cls ≠ "java/lang/invoke/MethodHandle" ∧ yX11_edge.cls ≠ "java/lang/invoke/VarHandle" ∧ (parseMethodDescriptor yX11_edge.desc).map (fun d => d.parameters.length) = some 4 := by decide +kernel
theorem cd_X11_scraping : Cond.code yX11_scraping cX11_scraping 8 (some .int) ∈ tz := tz_in 1233 (by decide +kernel) (by decide +kernel)
theorem im_X11_scraping : Cond.instanceMethod yX11_scraping ∈ tz := tz_in 1231 (by decide +kernel) (by decide +kernel)
theorem se_X11_scraping : Cond.selects RX11 yX11_scraping yX11_scraping ∈ tz := tz_in 1232 (by decide +kernel) (by decide +kernel)
theorem hc_X11_scraping : yX11_scraping.cls = RX11 ∧ yX11_scraping.cls ≠ "java/lang/invoke/MethodHandle" ∧ yX11_scraping.cls ≠ "java/lang/invoke/VarHandle" ∧ (parseMethodDescriptor yX11_scraping.desc).map (fun d => d.parameters.length) = some 2 := by decide +kernel
theorem cd_X11_goThrough : Cond.code yX11_goThrough cX11_goThrough 9 (some .boolean) ∈ tz := tz_in 1241 (by decide +kernel) (by decide +kernel)
theorem im_X11_goThrough : Cond.instanceMethod yX11_goThrough ∈ tz := tz_in 1240 (by decide +kernel) (by decide +kernel)
theorem se_X11_goThrough : Cond.selects RX11 yX11_goThrough yX11_goThrough ∈ tz := tz_in 32 (by decide +kernel) (by decide +kernel)
theorem hc_X11_goThrough : yX11_goThrough.cls = RX11 ∧ yX11_goThrough.cls ≠ "java/lang/invoke/MethodHandle" ∧ yX11_goThrough.cls ≠ "java/lang/invoke/VarHandle" ∧ (parseMethodDescriptor yX11_goThrough.desc).map (fun d => d.parameters.length) = some 2 := by decide +kernel
theorem cd_X11_through : Cond.code yX11_through cX11_through 5 (some .int) ∈ tz := tz_in 1237 (by decide +kernel) (by decide +kernel)
theorem im_X11_through : Cond.instanceMethod yX11_through ∈ tz := tz_in 1235 (by decide +kernel) (by decide +kernel)
theorem se_X11_through : Cond.selects RX11 yX11_through yX11_through ∈ tz := tz_in 1236 (by decide +kernel) (by decide +kernel)
theorem hc_X11_through : yX11_through.cls = RX11 ∧ yX11_through.cls ≠ "java/lang/invoke/MethodHandle" ∧ yX11_through.cls ≠ "java/lang/invoke/VarHandle" ∧ (parseMethodDescriptor yX11_through.desc).map (fun d => d.parameters.length) = some 2 := by decide +kernel
theorem cd_X11_over : Cond.code yX11_over cX11_over 7 (some .int) ∈ tz := tz_in 1245 (by decide +kernel) (by decide +kernel)
theorem im_X11_over : Cond.instanceMethod yX11_over ∈ tz := tz_in 1243 (by decide +kernel) (by decide +kernel)
theorem se_X11_over : Cond.selects RX11 yX11_over yX11_over ∈ tz := tz_in 1244 (by decide +kernel) (by decide +kernel)
theorem hc_X11_over : yX11_over.cls = RX11 ∧ yX11_over.cls ≠ "java/lang/invoke/MethodHandle" ∧ yX11_over.cls ≠ "java/lang/invoke/VarHandle" ∧ (parseMethodDescriptor yX11_over.desc).map (fun d => d.parameters.length) = some 2 := by decide +kernel
theorem cd_X11_quiet : Cond.code yX11_quiet cX11_quiet 6 (some .int) ∈ tz := tz_in 1249 (by decide +kernel) (by decide +kernel)
theorem im_X11_quiet : Cond.instanceMethod yX11_quiet ∈ tz := tz_in 1247 (by decide +kernel) (by decide +kernel)
theorem se_X11_quiet : Cond.selects RX11 yX11_quiet yX11_quiet ∈ tz := tz_in 1248 (by decide +kernel) (by decide +kernel)
theorem hc_X11_quiet : yX11_quiet.cls = RX11 ∧ yX11_quiet.cls ≠ "java/lang/invoke/MethodHandle" ∧ yX11_quiet.cls ≠ "java/lang/invoke/VarHandle" ∧ (parseMethodDescriptor yX11_quiet.desc).map (fun d => d.parameters.length) = some 2 := by decide +kernel
theorem cd_X11_hear : Cond.code yX11_hear cX11_hear 4 (some .int) ∈ tz := tz_in 1255 (by decide +kernel) (by decide +kernel)
theorem im_X11_hear : Cond.instanceMethod yX11_hear ∈ tz := tz_in 1253 (by decide +kernel) (by decide +kernel)
theorem se_X11_hear : Cond.selects RX11 yX11_hear yX11_hear ∈ tz := tz_in 1254 (by decide +kernel) (by decide +kernel)
theorem hc_X11_hear : yX11_hear.cls = RX11 ∧ yX11_hear.cls ≠ "java/lang/invoke/MethodHandle" ∧ yX11_hear.cls ≠ "java/lang/invoke/VarHandle" ∧ (parseMethodDescriptor yX11_hear.desc).map (fun d => d.parameters.length) = some 3 := by decide +kernel
theorem cd_X11_laysStays : Cond.code yX11_laysStays cX11_laysStays 5 (some .int) ∈ tz := tz_in 1264 (by decide +kernel) (by decide +kernel)
theorem im_X11_laysStays : Cond.instanceMethod yX11_laysStays ∈ tz := tz_in 1263 (by decide +kernel) (by decide +kernel)
theorem se_X11_laysStays : Cond.selects RX11 yX11_laysStays yX11_laysStays ∈ tz := tz_in 33 (by decide +kernel) (by decide +kernel)
theorem hc_X11_laysStays : yX11_laysStays.cls = RX11 ∧ yX11_laysStays.cls ≠ "java/lang/invoke/MethodHandle" ∧ yX11_laysStays.cls ≠ "java/lang/invoke/VarHandle" ∧ (parseMethodDescriptor yX11_laysStays.desc).map (fun d => d.parameters.length) = some 1 := by decide +kernel
theorem cd_X11_stays : Cond.code yX11_stays cX11_stays 7 (some .int) ∈ tz := tz_in 1260 (by decide +kernel) (by decide +kernel)
theorem im_X11_stays : Cond.instanceMethod yX11_stays ∈ tz := tz_in 1258 (by decide +kernel) (by decide +kernel)
theorem se_X11_stays : Cond.selects RX11 yX11_stays yX11_stays ∈ tz := tz_in 1259 (by decide +kernel) (by decide +kernel)
theorem hc_X11_stays : yX11_stays.cls = RX11 ∧ yX11_stays.cls ≠ "java/lang/invoke/MethodHandle" ∧ yX11_stays.cls ≠ "java/lang/invoke/VarHandle" ∧ (parseMethodDescriptor yX11_stays.desc).map (fun d => d.parameters.length) = some 2 := by decide +kernel
theorem cd_X11_ask : Cond.code yX11_ask cX11_ask 9 (some .int) ∈ tz := tz_in 1272 (by decide +kernel) (by decide +kernel)
theorem im_X11_ask : Cond.instanceMethod yX11_ask ∈ tz := tz_in 1270 (by decide +kernel) (by decide +kernel)
theorem se_X11_ask : Cond.selects RX11 yX11_ask yX11_ask ∈ tz := tz_in 1271 (by decide +kernel) (by decide +kernel)
theorem hc_X11_ask : yX11_ask.cls = RX11 ∧ yX11_ask.cls ≠ "java/lang/invoke/MethodHandle" ∧ yX11_ask.cls ≠ "java/lang/invoke/VarHandle" ∧ (parseMethodDescriptor yX11_ask.desc).map (fun d => d.parameters.length) = some 1 := by decide +kernel
theorem cd_X11_write : Cond.code yX11_write cX11_write 3 (some .int) ∈ tz := tz_in 1276 (by decide +kernel) (by decide +kernel)
theorem im_X11_write : Cond.instanceMethod yX11_write ∈ tz := tz_in 1274 (by decide +kernel) (by decide +kernel)
theorem se_X11_write : Cond.selects RX11 yX11_write yX11_write ∈ tz := tz_in 1275 (by decide +kernel) (by decide +kernel)
theorem hc_X11_write : yX11_write.cls = RX11 ∧ yX11_write.cls ≠ "java/lang/invoke/MethodHandle" ∧ yX11_write.cls ≠ "java/lang/invoke/VarHandle" ∧ (parseMethodDescriptor yX11_write.desc).map (fun d => d.parameters.length) = some 2 := by decide +kernel
theorem cd_X11_tear : Cond.code yX11_tear cX11_tear 2 (some .int) ∈ tz := tz_in 1281 (by decide +kernel) (by decide +kernel)
theorem im_X11_tear : Cond.instanceMethod yX11_tear ∈ tz := tz_in 1279 (by decide +kernel) (by decide +kernel)
theorem se_X11_tear : Cond.selects RX11 yX11_tear yX11_tear ∈ tz := tz_in 1280 (by decide +kernel) (by decide +kernel)
theorem hc_X11_tear : yX11_tear.cls = RX11 ∧ yX11_tear.cls ≠ "java/lang/invoke/MethodHandle" ∧ yX11_tear.cls ≠ "java/lang/invoke/VarHandle" ∧ (parseMethodDescriptor yX11_tear.desc).map (fun d => d.parameters.length) = some 0 := by decide +kernel
theorem cd_X11_judge : Cond.code yX11_judge cX11_judge 2 (some .int) ∈ tz := tz_in 1285 (by decide +kernel) (by decide +kernel)
theorem im_X11_judge : Cond.instanceMethod yX11_judge ∈ tz := tz_in 1283 (by decide +kernel) (by decide +kernel)
theorem se_X11_judge : Cond.selects RX11 yX11_judge yX11_judge ∈ tz := tz_in 1284 (by decide +kernel) (by decide +kernel)
theorem hc_X11_judge : yX11_judge.cls = RX11 ∧ yX11_judge.cls ≠ "java/lang/invoke/MethodHandle" ∧ yX11_judge.cls ≠ "java/lang/invoke/VarHandle" ∧ (parseMethodDescriptor yX11_judge.desc).map (fun d => d.parameters.length) = some 0 := by decide +kernel
theorem cd_X11_seed : Cond.code yX11_seed cX11_seed 3 (some .int) ∈ tz := tz_in 1289 (by decide +kernel) (by decide +kernel)
theorem im_X11_seed : Cond.instanceMethod yX11_seed ∈ tz := tz_in 1287 (by decide +kernel) (by decide +kernel)
theorem se_X11_seed : Cond.selects RX11 yX11_seed yX11_seed ∈ tz := tz_in 1288 (by decide +kernel) (by decide +kernel)
theorem hc_X11_seed : yX11_seed.cls = RX11 ∧ yX11_seed.cls ≠ "java/lang/invoke/MethodHandle" ∧ yX11_seed.cls ≠ "java/lang/invoke/VarHandle" ∧ (parseMethodDescriptor yX11_seed.desc).map (fun d => d.parameters.length) = some 1 := by decide +kernel
theorem cd_X11_keep : Cond.code yX11_keep cX11_keep 3 (some .int) ∈ tz := tz_in 1293 (by decide +kernel) (by decide +kernel)
theorem im_X11_keep : Cond.instanceMethod yX11_keep ∈ tz := tz_in 1291 (by decide +kernel) (by decide +kernel)
theorem se_X11_keep : Cond.selects RX11 yX11_keep yX11_keep ∈ tz := tz_in 1292 (by decide +kernel) (by decide +kernel)
theorem hc_X11_keep : yX11_keep.cls = RX11 ∧ yX11_keep.cls ≠ "java/lang/invoke/MethodHandle" ∧ yX11_keep.cls ≠ "java/lang/invoke/VarHandle" ∧ (parseMethodDescriptor yX11_keep.desc).map (fun d => d.parameters.length) = some 1 := by decide +kernel
theorem cd_X11_goBack : Cond.code yX11_goBack cX11_goBack 3 (some .int) ∈ tz := tz_in 1297 (by decide +kernel) (by decide +kernel)
theorem im_X11_goBack : Cond.instanceMethod yX11_goBack ∈ tz := tz_in 1295 (by decide +kernel) (by decide +kernel)
theorem se_X11_goBack : Cond.selects RX11 yX11_goBack yX11_goBack ∈ tz := tz_in 1296 (by decide +kernel) (by decide +kernel)
theorem hc_X11_goBack : yX11_goBack.cls = RX11 ∧ yX11_goBack.cls ≠ "java/lang/invoke/MethodHandle" ∧ yX11_goBack.cls ≠ "java/lang/invoke/VarHandle" ∧ (parseMethodDescriptor yX11_goBack.desc).map (fun d => d.parameters.length) = some 1 := by decide +kernel
theorem cd_J6_compare_7cf53 : Cond.code yJ6_compare_7cf53 cJ6_compare_7cf53 2 (some .int) ∈ tz := tz_in 769 (by decide +kernel) (by decide +kernel)
theorem sm_J6_compare_7cf53 : Cond.static yJ6_compare_7cf53 ∈ tz := tz_in 768 (by decide +kernel) (by decide +kernel)
theorem hc_J6_compare_7cf53 : yJ6_compare_7cf53.cls ≠ "java/lang/invoke/MethodHandle" ∧ yJ6_compare_7cf53.cls ≠ "java/lang/invoke/VarHandle" ∧ (parseMethodDescriptor yJ6_compare_7cf53.desc).map (fun d => d.parameters.length) = some 2 := by decide +kernel
theorem cd_J6_bitCount_0f7a4 : Cond.code yJ6_bitCount_0f7a4 cJ6_bitCount_0f7a4 1 (some .int) ∈ tz := tz_in 590 (by decide +kernel) (by decide +kernel)
theorem sm_J6_bitCount_0f7a4 : Cond.static yJ6_bitCount_0f7a4 ∈ tz := tz_in 589 (by decide +kernel) (by decide +kernel)
theorem hc_J6_bitCount_0f7a4 : yJ6_bitCount_0f7a4.cls ≠ "java/lang/invoke/MethodHandle" ∧ yJ6_bitCount_0f7a4.cls ≠ "java/lang/invoke/VarHandle" ∧ (parseMethodDescriptor yJ6_bitCount_0f7a4.desc).map (fun d => d.parameters.length) = some 1 := by decide +kernel
theorem cd_J9_floorMod_7cf53 : Cond.code yJ9_floorMod_7cf53 cJ9_floorMod_7cf53 3 (some .int) ∈ tz := tz_in 574 (by decide +kernel) (by decide +kernel)
theorem sm_J9_floorMod_7cf53 : Cond.static yJ9_floorMod_7cf53 ∈ tz := tz_in 573 (by decide +kernel) (by decide +kernel)
theorem hc_J9_floorMod_7cf53 : yJ9_floorMod_7cf53.cls ≠ "java/lang/invoke/MethodHandle" ∧ yJ9_floorMod_7cf53.cls ≠ "java/lang/invoke/VarHandle" ∧ (parseMethodDescriptor yJ9_floorMod_7cf53.desc).map (fun d => d.parameters.length) = some 2 := by decide +kernel
theorem ini_X0 : Cond.initialized RX0 ∈ tz := tz_in 44 (by decide +kernel) (by decide +kernel)
theorem ini_X1 : Cond.initialized RX1 ∈ tz := tz_in 42 (by decide +kernel) (by decide +kernel)
theorem ini_X2 : Cond.initialized RX2 ∈ tz := tz_in 43 (by decide +kernel) (by decide +kernel)
theorem ini_X3 : Cond.initialized RX3 ∈ tz := tz_in 40 (by decide +kernel) (by decide +kernel)
theorem ini_X4 : Cond.initialized RX4 ∈ tz := tz_in 41 (by decide +kernel) (by decide +kernel)
theorem ini_X5 : Cond.initialized RX5 ∈ tz := tz_in 46 (by decide +kernel) (by decide +kernel)
theorem ini_X6 : Cond.initialized RX6 ∈ tz := tz_in 38 (by decide +kernel) (by decide +kernel)
theorem ini_X7 : Cond.initialized RX7 ∈ tz := tz_in 39 (by decide +kernel) (by decide +kernel)
theorem ini_X8 : Cond.initialized RX8 ∈ tz := tz_in 37 (by decide +kernel) (by decide +kernel)
theorem ini_X9 : Cond.initialized RX9 ∈ tz := tz_in 45 (by decide +kernel) (by decide +kernel)
theorem ini_X10 : Cond.initialized RX10 ∈ tz := tz_in 36 (by decide +kernel) (by decide +kernel)
theorem ini_X11 : Cond.initialized RX11 ∈ tz := tz_in 47 (by decide +kernel) (by decide +kernel)
theorem ini_J6 : Cond.initialized RJ6 ∈ tz := tz_in 49 (by decide +kernel) (by decide +kernel)
theorem ini_J9 : Cond.initialized RJ9 ∈ tz := tz_in 48 (by decide +kernel) (by decide +kernel)
theorem ml_X10_77 : Cond.methodLink RX10 77 yX10_isOutside ∈ tz := tz_in 372 (by decide +kernel) (by decide +kernel)
theorem gv_X10_77 : GoodIn tz (va_wsS RX10 77 yX10_isOutside (wz yX10_isOutside cX10_isOutside 3 (some .boolean))) := gdS ml_X10_77 sm_X10_isOutside ini_X10 cd_X10_isOutside
theorem ml_X10_87 : Cond.methodLink RX10 87 yX8_add ∈ tz := tz_in 377 (by decide +kernel) (by decide +kernel)
theorem gv_X10_87 : GoodIn tz (wsV RX10 87 RX8 yX8_add (wz yX8_add cX8_add 2 (some .int))) := gdV ml_X10_87 im_X8_add se_X8_add ini_X8 cd_X8_add
theorem ml_X10_91 : Cond.methodLink RX10 91 yX8_readInto ∈ tz := tz_in 385 (by decide +kernel) (by decide +kernel)
theorem gv_X10_91 : GoodIn tz (wsV RX10 91 RX8 yX8_readInto (wz yX8_readInto cX8_readInto 3 none)) := gdV ml_X10_91 im_X8_readInto se_X8_readInto ini_X8 cd_X8_readInto
theorem ml_X10_97 : Cond.methodLink RX10 97 yX7_begin ∈ tz := tz_in 440 (by decide +kernel) (by decide +kernel)
theorem gv_X10_97 : GoodIn tz (wsV RX10 97 RX7 yX7_begin (wz yX7_begin cX7_begin 3 none)) := gdV ml_X10_97 im_X7_begin se_X7_begin ini_X7 cd_X7_begin
theorem ml_X10_126 : Cond.methodLink RX10 126 yX7_setInside ∈ tz := tz_in 456 (by decide +kernel) (by decide +kernel)
theorem gv_X10_126 : GoodIn tz (wsV RX10 126 RX7 yX7_setInside (wz yX7_setInside cX7_setInside 3 (some .int))) := gdV ml_X10_126 im_X7_setInside se_X7_setInside ini_X7 cd_X7_setInside
theorem ml_X10_133 : Cond.methodLink RX10 133 yX7_allWounds ∈ tz := tz_in 460 (by decide +kernel) (by decide +kernel)
theorem gv_X10_133 : GoodIn tz (wsV RX10 133 RX7 yX7_allWounds (wz yX7_allWounds cX7_allWounds 3 (some .int))) := gdV ml_X10_133 im_X7_allWounds se_X7_allWounds ini_X7 cd_X7_allWounds
theorem ml_X10_136 : Cond.methodLink RX10 136 yX7_best ∈ tz := tz_in 464 (by decide +kernel) (by decide +kernel)
theorem gv_X10_136 : GoodIn tz (wsV RX10 136 RX7 yX7_best (wz yX7_best cX7_best 5 (some .int))) := gdV ml_X10_136 im_X7_best se_X7_best ini_X7 cd_X7_best
theorem ml_X10_139 : Cond.methodLink RX10 139 yX7_chosen ∈ tz := tz_in 479 (by decide +kernel) (by decide +kernel)
theorem gv_X10_139 : GoodIn tz (wsV RX10 139 RX7 yX7_chosen (wz yX7_chosen cX7_chosen 5 (some .int))) := gdV ml_X10_139 im_X7_chosen se_X7_chosen ini_X7 cd_X7_chosen
theorem ml_X10_142 : Cond.methodLink RX10 142 yX7_tender ∈ tz := tz_in 492 (by decide +kernel) (by decide +kernel)
theorem gv_X10_142 : GoodIn tz (wsV RX10 142 RX7 yX7_tender (wz yX7_tender cX7_tender 6 (some .int))) := gdV ml_X10_142 im_X7_tender se_X7_tender ini_X7 cd_X7_tender
theorem ml_X10_145 : Cond.methodLink RX10 145 yX6_hasMan ∈ tz := tz_in 500 (by decide +kernel) (by decide +kernel)
theorem gv_X10_145 : GoodIn tz (wsV RX10 145 RX6 yX6_hasMan (wz yX6_hasMan cX6_hasMan 2 (some .boolean))) := gdV ml_X10_145 im_X6_hasMan se_X6_hasMan ini_X6 cd_X6_hasMan
theorem ml_X10_164 : Cond.methodLink RX10 164 yX6_setBorne ∈ tz := tz_in 505 (by decide +kernel) (by decide +kernel)
theorem gv_X10_164 : GoodIn tz (wsV RX10 164 RX6 yX6_setBorne (wz yX6_setBorne cX6_setBorne 4 (some .int))) := gdV ml_X10_164 im_X6_setBorne se_X6_setBorne ini_X6 cd_X6_setBorne
theorem ml_X10_168 : Cond.methodLink RX10 168 yX6_setFelt ∈ tz := tz_in 509 (by decide +kernel) (by decide +kernel)
theorem gv_X10_168 : GoodIn tz (wsV RX10 168 RX6 yX6_setFelt (wz yX6_setFelt cX6_setFelt 4 (some .int))) := gdV ml_X10_168 im_X6_setFelt se_X6_setFelt ini_X6 cd_X6_setFelt
theorem ml_X10_178 : Cond.methodLink RX10 178 yX6_hasSaying ∈ tz := tz_in 521 (by decide +kernel) (by decide +kernel)
theorem gv_X10_178 : GoodIn tz (wsV RX10 178 RX6 yX6_hasSaying (wz yX6_hasSaying cX6_hasSaying 2 (some .boolean))) := gdV ml_X10_178 im_X6_hasSaying se_X6_hasSaying ini_X6 cd_X6_hasSaying
theorem ml_X10_187 : Cond.methodLink RX10 187 yX6_pain ∈ tz := tz_in 529 (by decide +kernel) (by decide +kernel)
theorem gv_X10_187 : GoodIn tz (wsV RX10 187 RX6 yX6_pain (wz yX6_pain cX6_pain 4 (some .int))) := gdV ml_X10_187 im_X6_pain se_X6_pain ini_X6 cd_X6_pain
theorem ml_X10_191 : Cond.methodLink RX10 191 yX10_refusalOfMonths ∈ tz := tz_in 534 (by decide +kernel) (by decide +kernel)
theorem gv_X10_191 : GoodIn tz (wsV RX10 191 RX10 yX10_refusalOfMonths (wz yX10_refusalOfMonths cX10_refusalOfMonths 2 (some .int))) := gdV ml_X10_191 im_X10_refusalOfMonths se_X10_refusalOfMonths ini_X10 cd_X10_refusalOfMonths
theorem ml_X10_194 : Cond.methodLink RX10 194 yX4_push ∈ tz := tz_in 540 (by decide +kernel) (by decide +kernel)
theorem gv_X10_194 : GoodIn tz (wsV RX10 194 RX4 yX4_push (wz yX4_push cX4_push 2 none)) := gdV ml_X10_194 im_X4_push se_X4_push ini_X4 cd_X4_push
theorem ml_X10_198 : Cond.methodLink RX10 198 yX7_passMonth ∈ tz := tz_in 555 (by decide +kernel) (by decide +kernel)
theorem gv_X10_198 : GoodIn tz (wsV RX10 198 RX7 yX7_passMonth (wz yX7_passMonth cX7_passMonth 2 none)) := gdV ml_X10_198 im_X7_passMonth se_X7_passMonth ini_X7 cd_X7_passMonth
theorem ml_X10_202 : Cond.methodLink RX10 202 yX7_freePits ∈ tz := tz_in 583 (by decide +kernel) (by decide +kernel)
theorem gv_X10_202 : GoodIn tz (wsV RX10 202 RX7 yX7_freePits (wz yX7_freePits cX7_freePits 1 (some .int))) := gdV ml_X10_202 im_X7_freePits se_X7_freePits ini_X7 cd_X7_freePits
theorem ml_X10_205 : Cond.methodLink RX10 205 yX7_scrapeOff ∈ tz := tz_in 602 (by decide +kernel) (by decide +kernel)
theorem gv_X10_205 : GoodIn tz (wsV RX10 205 RX7 yX7_scrapeOff (wz yX7_scrapeOff cX7_scrapeOff 4 none)) := gdV ml_X10_205 im_X7_scrapeOff se_X7_scrapeOff ini_X7 cd_X7_scrapeOff
theorem ml_X10_209 : Cond.methodLink RX10 209 yX7_wound ∈ tz := tz_in 612 (by decide +kernel) (by decide +kernel)
theorem gv_X10_209 : GoodIn tz (wsV RX10 209 RX7 yX7_wound (wz yX7_wound cX7_wound 3 none)) := gdV ml_X10_209 im_X7_wound se_X7_wound ini_X7 cd_X7_wound
theorem ml_X10_213 : Cond.methodLink RX10 213 yX6_isNone ∈ tz := tz_in 538 (by decide +kernel) (by decide +kernel)
theorem gv_X10_213 : GoodIn tz (wsV RX10 213 RX6 yX6_isNone (wz yX6_isNone cX6_isNone 1 (some .boolean))) := gdV ml_X10_213 im_X6_isNone se_X6_isNone ini_X6 cd_X6_isNone
theorem ml_X10_217 : Cond.methodLink RX10 217 yX7_stir ∈ tz := tz_in 625 (by decide +kernel) (by decide +kernel)
theorem gv_X10_217 : GoodIn tz (wsV RX10 217 RX7 yX7_stir (wz yX7_stir cX7_stir 4 none)) := gdV ml_X10_217 im_X7_stir se_X7_stir ini_X7 cd_X7_stir
theorem ml_X10_221 : Cond.methodLink RX10 221 yX4_pop ∈ tz := tz_in 648 (by decide +kernel) (by decide +kernel)
theorem gv_X10_221 : GoodIn tz (wsV RX10 221 RX4 yX4_pop (wz yX4_pop cX4_pop 2 none)) := gdV ml_X10_221 im_X4_pop se_X4_pop ini_X4 cd_X4_pop
theorem ml_X10_224 : Cond.methodLink RX10 224 yX9_startNow ∈ tz := tz_in 664 (by decide +kernel) (by decide +kernel)
theorem gv_X10_224 : GoodIn tz (wsV RX10 224 RX9 yX9_startNow (wz yX9_startNow cX9_startNow 3 none)) := gdV ml_X10_224 im_X9_startNow se_X9_startNow ini_X9 cd_X9_startNow
theorem ml_X10_228 : Cond.methodLink RX10 228 yX9_passMonth ∈ tz := tz_in 676 (by decide +kernel) (by decide +kernel)
theorem gv_X10_228 : GoodIn tz (wsV RX10 228 RX9 yX9_passMonth (wz yX9_passMonth cX9_passMonth 1 none)) := gdV ml_X10_228 im_X9_passMonth se_X9_passMonth ini_X9 cd_X9_passMonth
theorem ml_X10_233 : Cond.methodLink RX10 233 yX9_firstBearing ∈ tz := tz_in 685 (by decide +kernel) (by decide +kernel)
theorem gv_X10_233 : GoodIn tz (wsV RX10 233 RX9 yX9_firstBearing (wz yX9_firstBearing cX9_firstBearing 4 (some .int))) := gdV ml_X10_233 im_X9_firstBearing se_X9_firstBearing ini_X9 cd_X9_firstBearing
theorem ml_X10_237 : Cond.methodLink RX10 237 yX9_lastFeeling ∈ tz := tz_in 694 (by decide +kernel) (by decide +kernel)
theorem gv_X10_237 : GoodIn tz (wsV RX10 237 RX9 yX9_lastFeeling (wz yX9_lastFeeling cX9_lastFeeling 5 (some .int))) := gdV ml_X10_237 im_X9_lastFeeling se_X9_lastFeeling ini_X9 cd_X9_lastFeeling
theorem ml_X10_240 : Cond.methodLink RX10 240 yX6_hasSet ∈ tz := tz_in 703 (by decide +kernel) (by decide +kernel)
theorem gv_X10_240 : GoodIn tz (wsV RX10 240 RX6 yX6_hasSet (wz yX6_hasSet cX6_hasSet 2 (some .boolean))) := gdV ml_X10_240 im_X6_hasSet se_X6_hasSet ini_X6 cd_X6_hasSet
theorem ml_X10_243 : Cond.methodLink RX10 243 yX6_bearsAll ∈ tz := tz_in 707 (by decide +kernel) (by decide +kernel)
theorem gv_X10_243 : GoodIn tz (wsV RX10 243 RX6 yX6_bearsAll (wz yX6_bearsAll cX6_bearsAll 4 (some .boolean))) := gdV ml_X10_243 im_X6_bearsAll se_X6_bearsAll ini_X6 cd_X6_bearsAll
theorem ml_X10_247 : Cond.methodLink RX10 247 yX6_feelsAll ∈ tz := tz_in 708 (by decide +kernel) (by decide +kernel)
theorem gv_X10_247 : GoodIn tz (wsV RX10 247 RX6 yX6_feelsAll (wz yX6_feelsAll cX6_feelsAll 4 (some .boolean))) := gdV ml_X10_247 im_X6_feelsAll se_X6_feelsAll ini_X6 cd_X6_feelsAll
theorem ml_X10_250 : Cond.methodLink RX10 250 yX9_note ∈ tz := tz_in 712 (by decide +kernel) (by decide +kernel)
theorem gv_X10_250 : GoodIn tz (wsV RX10 250 RX9 yX9_note (wz yX9_note cX9_note 2 none)) := gdV ml_X10_250 im_X9_note se_X9_note ini_X9 cd_X9_note
theorem ml_X10_254 : Cond.methodLink RX10 254 yX9_noted ∈ tz := tz_in 716 (by decide +kernel) (by decide +kernel)
theorem gv_X10_254 : GoodIn tz (wsV RX10 254 RX9 yX9_noted (wz yX9_noted cX9_noted 2 (some .int))) := gdV ml_X10_254 im_X9_noted se_X9_noted ini_X9 cd_X9_noted
theorem ml_X10_257 : Cond.methodLink RX10 257 yX6_leastScraping ∈ tz := tz_in 724 (by decide +kernel) (by decide +kernel)
theorem gv_X10_257 : GoodIn tz (wsV RX10 257 RX6 yX6_leastScraping (wz yX6_leastScraping cX6_leastScraping 6 (some .int))) := gdV ml_X10_257 im_X6_leastScraping se_X6_leastScraping ini_X6 cd_X6_leastScraping
theorem ml_X10_263 : Cond.methodLink RX10 263 yX6_everySaying ∈ tz := tz_in 736 (by decide +kernel) (by decide +kernel)
theorem gv_X10_263 : GoodIn tz (wsV RX10 263 RX6 yX6_everySaying (wz yX6_everySaying cX6_everySaying 1 (some .int))) := gdV ml_X10_263 im_X6_everySaying se_X6_everySaying ini_X6 cd_X6_everySaying
theorem ml_X10_266 : Cond.methodLink RX10 266 yX5_fill ∈ tz := tz_in 740 (by decide +kernel) (by decide +kernel)
theorem gv_X10_266 : GoodIn tz (wsV RX10 266 RX5 yX5_fill (wz yX5_fill cX5_fill 4 none)) := gdV ml_X10_266 im_X5_fill se_X5_fill ini_X5 cd_X5_fill
theorem ml_X10_269 : Cond.methodLink RX10 269 yX5_mostWithin ∈ tz := tz_in 753 (by decide +kernel) (by decide +kernel)
theorem gv_X10_269 : GoodIn tz (wsV RX10 269 RX5 yX5_mostWithin (wz yX5_mostWithin cX5_mostWithin 5 (some .int))) := gdV ml_X10_269 im_X5_mostWithin se_X5_mostWithin ini_X5 cd_X5_mostWithin
theorem ml_X10_273 : Cond.methodLink RX10 273 yJ6_bitCount_0f7a4 ∈ tz := tz_in 758 (by decide +kernel) (by decide +kernel)
theorem gv_X10_273 : GoodIn tz (va_wsS RX10 273 yJ6_bitCount_0f7a4 (wz yJ6_bitCount_0f7a4 cJ6_bitCount_0f7a4 1 (some .int))) := gdS ml_X10_273 sm_J6_bitCount_0f7a4 ini_J6 cd_J6_bitCount_0f7a4
theorem ml_X10_278 : Cond.methodLink RX10 278 yX3_isOver ∈ tz := tz_in 763 (by decide +kernel) (by decide +kernel)
theorem gv_X10_278 : GoodIn tz (wsV RX10 278 RX3 yX3_isOver (wz yX3_isOver cX3_isOver 4 (some .boolean))) := gdV ml_X10_278 im_X3_isOver se_X3_isOver ini_X3 cd_X3_isOver
theorem ml_X10_286 : Cond.methodLink RX10 286 yX2_add ∈ tz := tz_in 780 (by decide +kernel) (by decide +kernel)
theorem gv_X10_286 : GoodIn tz (wsV RX10 286 RX2 yX2_add (wz yX2_add cX2_add 4 (some .int))) := gdV ml_X10_286 im_X2_add se_X2_add ini_X2 cd_X2_add
theorem ml_X10_289 : Cond.methodLink RX10 289 yX9_startFirst ∈ tz := tz_in 788 (by decide +kernel) (by decide +kernel)
theorem gv_X10_289 : GoodIn tz (wsV RX10 289 RX9 yX9_startFirst (wz yX9_startFirst cX9_startFirst 3 none)) := gdV ml_X10_289 im_X9_startFirst se_X9_startFirst ini_X9 cd_X9_startFirst
theorem ml_X10_293 : Cond.methodLink RX10 293 yX2_agree ∈ tz := tz_in 793 (by decide +kernel) (by decide +kernel)
theorem gv_X10_293 : GoodIn tz (wsV RX10 293 RX2 yX2_agree (wz yX2_agree cX2_agree 5 (some .boolean))) := gdV ml_X10_293 im_X2_agree se_X2_agree ini_X2 cd_X2_agree
theorem ml_X10_297 : Cond.methodLink RX10 297 yX2_clearParts ∈ tz := tz_in 802 (by decide +kernel) (by decide +kernel)
theorem gv_X10_297 : GoodIn tz (wsV RX10 297 RX2 yX2_clearParts (wz yX2_clearParts cX2_clearParts 2 none)) := gdV ml_X10_297 im_X2_clearParts se_X2_clearParts ini_X2 cd_X2_clearParts
theorem ml_X10_300 : Cond.methodLink RX10 300 yX2_part ∈ tz := tz_in 806 (by decide +kernel) (by decide +kernel)
theorem gv_X10_300 : GoodIn tz (wsV RX10 300 RX2 yX2_part (wz yX2_part cX2_part 5 none)) := gdV ml_X10_300 im_X2_part se_X2_part ini_X2 cd_X2_part
theorem ml_X10_304 : Cond.methodLink RX10 304 yX2_bestParting ∈ tz := tz_in 811 (by decide +kernel) (by decide +kernel)
theorem gv_X10_304 : GoodIn tz (wsV RX10 304 RX2 yX2_bestParting (wz yX2_bestParting cX2_bestParting 5 (some .int))) := gdV ml_X10_304 im_X2_bestParting se_X2_bestParting ini_X2 cd_X2_bestParting
theorem ml_X10_308 : Cond.methodLink RX10 308 yX0_add ∈ tz := tz_in 820 (by decide +kernel) (by decide +kernel)
theorem gv_X10_308 : GoodIn tz (wsV RX10 308 RX0 yX0_add (wz yX0_add cX0_add 3 (some .int))) := gdV ml_X10_308 im_X0_add se_X0_add ini_X0 cd_X0_add
theorem ml_X10_310 : Cond.methodLink RX10 310 yX0_firstWrong ∈ tz := tz_in 832 (by decide +kernel) (by decide +kernel)
theorem gv_X10_310 : GoodIn tz (wsV RX10 310 RX0 yX0_firstWrong (wz yX0_firstWrong cX0_firstWrong 3 (some .int))) := gdV ml_X10_310 im_X0_firstWrong se_X0_firstWrong ini_X0 cd_X0_firstWrong
theorem ml_X10_317 : Cond.methodLink RX10 317 yX4_keepImage ∈ tz := tz_in 844 (by decide +kernel) (by decide +kernel)
theorem gv_X10_317 : GoodIn tz (wsV RX10 317 RX4 yX4_keepImage (wz yX4_keepImage cX4_keepImage 4 none)) := gdV ml_X10_317 im_X4_keepImage se_X4_keepImage ini_X4 cd_X4_keepImage
theorem ml_X10_321 : Cond.methodLink RX10 321 yX4_hasImage ∈ tz := tz_in 852 (by decide +kernel) (by decide +kernel)
theorem gv_X10_321 : GoodIn tz (wsV RX10 321 RX4 yX4_hasImage (wz yX4_hasImage cX4_hasImage 2 (some .boolean))) := gdV ml_X10_321 im_X4_hasImage se_X4_hasImage ini_X4 cd_X4_hasImage
theorem ml_X10_324 : Cond.methodLink RX10 324 yX4_loadImage ∈ tz := tz_in 856 (by decide +kernel) (by decide +kernel)
theorem gv_X10_324 : GoodIn tz (wsV RX10 324 RX4 yX4_loadImage (wz yX4_loadImage cX4_loadImage 4 none)) := gdV ml_X10_324 im_X4_loadImage se_X4_loadImage ini_X4 cd_X4_loadImage
theorem ml_X2_34 : Cond.methodLink RX2 34 yX6_pain ∈ tz := tz_in 797 (by decide +kernel) (by decide +kernel)
theorem gv_X2_34 : GoodIn tz (wsV RX2 34 RX6 yX6_pain (wz yX6_pain cX6_pain 4 (some .int))) := gdV ml_X2_34 im_X6_pain se_X6_pain ini_X6 cd_X6_pain
theorem ml_X2_45 : Cond.methodLink RX2 45 Lib.Math.max.name ∈ tz := tz_in 810 (by decide +kernel) (by decide +kernel)
theorem ml_X3_35 : Cond.methodLink RX3 35 yX3_thickenAll ∈ tz := tz_in 563 (by decide +kernel) (by decide +kernel)
theorem gv_X3_35 : GoodIn tz (wsV RX3 35 RX3 yX3_thickenAll (wz yX3_thickenAll cX3_thickenAll 4 none)) := gdV ml_X3_35 im_X3_thickenAll se_X3_thickenAll ini_X3 cd_X3_thickenAll
theorem ml_X3_39 : Cond.methodLink RX3 39 yJ9_floorMod_7cf53 ∈ tz := tz_in 572 (by decide +kernel) (by decide +kernel)
theorem gv_X3_39 : GoodIn tz (va_wsS RX3 39 yJ9_floorMod_7cf53 (wz yJ9_floorMod_7cf53 cJ9_floorMod_7cf53 3 (some .int))) := gdS ml_X3_39 sm_J9_floorMod_7cf53 ini_J9 cd_J9_floorMod_7cf53
theorem ml_X3_45 : Cond.methodLink RX3 45 yX3_thicken ∈ tz := tz_in 567 (by decide +kernel) (by decide +kernel)
theorem gv_X3_45 : GoodIn tz (wsV RX3 45 RX3 yX3_thicken (wz yX3_thicken cX3_thicken 3 none)) := gdV ml_X3_45 im_X3_thicken se_X3_thicken ini_X3 cd_X3_thicken
theorem ml_X3_48 : Cond.methodLink RX3 48 yX3_thinnestPlace ∈ tz := tz_in 575 (by decide +kernel) (by decide +kernel)
theorem gv_X3_48 : GoodIn tz (wsV RX3 48 RX3 yX3_thinnestPlace (wz yX3_thinnestPlace cX3_thinnestPlace 3 (some .int))) := gdV ml_X3_48 im_X3_thinnestPlace se_X3_thinnestPlace ini_X3 cd_X3_thinnestPlace
theorem ml_X3_52 : Cond.methodLink RX3 52 Lib.Math.min.name ∈ tz := tz_in 571 (by decide +kernel) (by decide +kernel)
theorem ml_X3_55 : Cond.methodLink RX3 55 yJ6_compare_7cf53 ∈ tz := tz_in 767 (by decide +kernel) (by decide +kernel)
theorem gv_X3_55 : GoodIn tz (va_wsS RX3 55 yJ6_compare_7cf53 (wz yJ6_compare_7cf53 cJ6_compare_7cf53 2 (some .int))) := gdS ml_X3_55 sm_J6_compare_7cf53 ini_J6 cd_J6_compare_7cf53
theorem ml_X4_27 : Cond.methodLink RX4 27 yX7_saveTo ∈ tz := tz_in 544 (by decide +kernel) (by decide +kernel)
theorem gv_X4_27 : GoodIn tz (wsV RX4 27 RX7 yX7_saveTo (wz yX7_saveTo cX7_saveTo 3 none)) := gdV ml_X4_27 im_X7_saveTo se_X7_saveTo ini_X7 cd_X7_saveTo
theorem ml_X4_36 : Cond.methodLink RX4 36 Lib.Math.min.name ∈ tz := tz_in 552 (by decide +kernel) (by decide +kernel)
theorem ml_X4_42 : Cond.methodLink RX4 42 yX7_loadFrom ∈ tz := tz_in 652 (by decide +kernel) (by decide +kernel)
theorem gv_X4_42 : GoodIn tz (wsV RX4 42 RX7 yX7_loadFrom (wz yX7_loadFrom cX7_loadFrom 3 none)) := gdV ml_X4_42 im_X7_loadFrom se_X7_loadFrom ini_X7 cd_X7_loadFrom
theorem ml_X5_21 : Cond.methodLink RX5 21 yX5_addMonths ∈ tz := tz_in 744 (by decide +kernel) (by decide +kernel)
theorem gv_X5_21 : GoodIn tz (wsV RX5 21 RX5 yX5_addMonths (wz yX5_addMonths cX5_addMonths 4 none)) := gdV ml_X5_21 im_X5_addMonths se_X5_addMonths ini_X5 cd_X5_addMonths
theorem ml_X5_25 : Cond.methodLink RX5 25 yX5_fewestPits ∈ tz := tz_in 748 (by decide +kernel) (by decide +kernel)
theorem gv_X5_25 : GoodIn tz (wsV RX5 25 RX5 yX5_fewestPits (wz yX5_fewestPits cX5_fewestPits 5 (some .int))) := gdV ml_X5_25 im_X5_fewestPits se_X5_fewestPits ini_X5 cd_X5_fewestPits
theorem ml_X5_29 : Cond.methodLink RX5 29 Lib.Math.min.name ∈ tz := tz_in 752 (by decide +kernel) (by decide +kernel)
theorem ml_X5_34 : Cond.methodLink RX5 34 yJ6_bitCount_0f7a4 ∈ tz := tz_in 757 (by decide +kernel) (by decide +kernel)
theorem gv_X5_34 : GoodIn tz (va_wsS RX5 34 yJ6_bitCount_0f7a4 (wz yJ6_bitCount_0f7a4 cJ6_bitCount_0f7a4 1 (some .int))) := gdS ml_X5_34 sm_J6_bitCount_0f7a4 ini_J6 cd_J6_bitCount_0f7a4
theorem ml_X6_46 : Cond.methodLink RX6 46 Lib.Math.max.name ∈ tz := tz_in 476 (by decide +kernel) (by decide +kernel)
theorem ml_X6_52 : Cond.methodLink RX6 52 yX6_pain ∈ tz := tz_in 472 (by decide +kernel) (by decide +kernel)
theorem gv_X6_52 : GoodIn tz (wsV RX6 52 RX6 yX6_pain (wz yX6_pain cX6_pain 4 (some .int))) := gdV ml_X6_52 im_X6_pain se_X6_pain ini_X6 cd_X6_pain
theorem ml_X6_56 : Cond.methodLink RX6 56 yX6_scrapingAt ∈ tz := tz_in 728 (by decide +kernel) (by decide +kernel)
theorem gv_X6_56 : GoodIn tz (wsV RX6 56 RX6 yX6_scrapingAt (wz yX6_scrapingAt cX6_scrapingAt 6 (some .int))) := gdV ml_X6_56 im_X6_scrapingAt se_X6_scrapingAt ini_X6 cd_X6_scrapingAt
theorem ml_X7_37 : Cond.methodLink RX7 37 yX3_begin ∈ tz := tz_in 444 (by decide +kernel) (by decide +kernel)
theorem gv_X7_37 : GoodIn tz (wsV RX7 37 RX3 yX3_begin (wz yX3_begin cX3_begin 4 none)) := gdV ml_X7_37 im_X3_begin se_X3_begin ini_X3 cd_X3_begin
theorem ml_X7_44 : Cond.methodLink RX7 44 yX3_tan ∈ tz := tz_in 559 (by decide +kernel) (by decide +kernel)
theorem gv_X7_44 : GoodIn tz (wsV RX7 44 RX3 yX3_tan (wz yX3_tan cX3_tan 3 none)) := gdV ml_X7_44 im_X3_tan se_X3_tan ini_X3 cd_X3_tan
theorem ml_X7_51 : Cond.methodLink RX7 51 yX7_setInside ∈ tz := tz_in 587 (by decide +kernel) (by decide +kernel)
theorem gv_X7_51 : GoodIn tz (wsV RX7 51 RX7 yX7_setInside (wz yX7_setInside cX7_setInside 3 (some .int))) := gdV ml_X7_51 im_X7_setInside se_X7_setInside ini_X7 cd_X7_setInside
theorem ml_X7_55 : Cond.methodLink RX7 55 yJ6_bitCount_0f7a4 ∈ tz := tz_in 588 (by decide +kernel) (by decide +kernel)
theorem gv_X7_55 : GoodIn tz (va_wsS RX7 55 yJ6_bitCount_0f7a4 (wz yJ6_bitCount_0f7a4 cJ6_bitCount_0f7a4 1 (some .int))) := gdS ml_X7_55 sm_J6_bitCount_0f7a4 ini_J6 cd_J6_bitCount_0f7a4
theorem ml_X7_69 : Cond.methodLink RX7 69 Lib.Math.min.name ∈ tz := tz_in 607 (by decide +kernel) (by decide +kernel)
theorem ml_X7_76 : Cond.methodLink RX7 76 yX6_pain ∈ tz := tz_in 491 (by decide +kernel) (by decide +kernel)
theorem gv_X7_76 : GoodIn tz (wsV RX7 76 RX6 yX6_pain (wz yX6_pain cX6_pain 4 (some .int))) := gdV ml_X7_76 im_X6_pain se_X6_pain ini_X6 cd_X6_pain
theorem ml_X7_80 : Cond.methodLink RX7 80 yX1_next ∈ tz := tz_in 629 (by decide +kernel) (by decide +kernel)
theorem gv_X7_80 : GoodIn tz (wsV RX7 80 RX1 yX1_next (wz yX1_next cX1_next 2 (some .int))) := gdV ml_X7_80 im_X1_next se_X1_next ini_X1 cd_X1_next
theorem ml_X7_85 : Cond.methodLink RX7 85 yX7_freePits ∈ tz := tz_in 637 (by decide +kernel) (by decide +kernel)
theorem gv_X7_85 : GoodIn tz (wsV RX7 85 RX7 yX7_freePits (wz yX7_freePits cX7_freePits 1 (some .int))) := gdV ml_X7_85 im_X7_freePits se_X7_freePits ini_X7 cd_X7_freePits
theorem ml_X7_91 : Cond.methodLink RX7 91 yX7_wound ∈ tz := tz_in 638 (by decide +kernel) (by decide +kernel)
theorem gv_X7_91 : GoodIn tz (wsV RX7 91 RX7 yX7_wound (wz yX7_wound cX7_wound 3 none)) := gdV ml_X7_91 im_X7_wound se_X7_wound ini_X7 cd_X7_wound
theorem ml_X7_94 : Cond.methodLink RX7 94 yX7_scrapeIfSoft ∈ tz := tz_in 639 (by decide +kernel) (by decide +kernel)
theorem gv_X7_94 : GoodIn tz (wsV RX7 94 RX7 yX7_scrapeIfSoft (wz yX7_scrapeIfSoft cX7_scrapeIfSoft 3 none)) := gdV ml_X7_94 im_X7_scrapeIfSoft se_X7_scrapeIfSoft ini_X7 cd_X7_scrapeIfSoft
theorem ml_X7_97 : Cond.methodLink RX7 97 yX7_scrapeOff ∈ tz := tz_in 643 (by decide +kernel) (by decide +kernel)
theorem gv_X7_97 : GoodIn tz (wsV RX7 97 RX7 yX7_scrapeOff (wz yX7_scrapeOff cX7_scrapeOff 4 none)) := gdV ml_X7_97 im_X7_scrapeOff se_X7_scrapeOff ini_X7 cd_X7_scrapeOff
theorem ml_X7_101 : Cond.methodLink RX7 101 yX6_wholePain ∈ tz := tz_in 468 (by decide +kernel) (by decide +kernel)
theorem gv_X7_101 : GoodIn tz (wsV RX7 101 RX6 yX6_wholePain (wz yX6_wholePain cX6_wholePain 4 (some .int))) := gdV ml_X7_101 im_X6_wholePain se_X6_wholePain ini_X6 cd_X6_wholePain
theorem ml_X7_105 : Cond.methodLink RX7 105 yX7_votesFor ∈ tz := tz_in 483 (by decide +kernel) (by decide +kernel)
theorem gv_X7_105 : GoodIn tz (wsV RX7 105 RX7 yX7_votesFor (wz yX7_votesFor cX7_votesFor 4 (some .int))) := gdV ml_X7_105 im_X7_votesFor se_X7_votesFor ini_X7 cd_X7_votesFor
theorem ml_X7_108 : Cond.methodLink RX7 108 yX7_leastPainedBy ∈ tz := tz_in 487 (by decide +kernel) (by decide +kernel)
theorem gv_X7_108 : GoodIn tz (wsV RX7 108 RX7 yX7_leastPainedBy (wz yX7_leastPainedBy cX7_leastPainedBy 4 (some .int))) := gdV ml_X7_108 im_X7_leastPainedBy se_X7_leastPainedBy ini_X7 cd_X7_leastPainedBy
theorem ml_X7_114 : Cond.methodLink RX7 114 yX3_saveTo ∈ tz := tz_in 548 (by decide +kernel) (by decide +kernel)
theorem gv_X7_114 : GoodIn tz (wsV RX7 114 RX3 yX3_saveTo (wz yX3_saveTo cX3_saveTo 4 none)) := gdV ml_X7_114 im_X3_saveTo se_X3_saveTo ini_X3 cd_X3_saveTo
theorem ml_X7_118 : Cond.methodLink RX7 118 yX3_loadFrom ∈ tz := tz_in 656 (by decide +kernel) (by decide +kernel)
theorem gv_X7_118 : GoodIn tz (wsV RX7 118 RX3 yX3_loadFrom (wz yX3_loadFrom cX3_loadFrom 4 none)) := gdV ml_X7_118 im_X3_loadFrom se_X3_loadFrom ini_X3 cd_X3_loadFrom
theorem ml_X8_22 : Cond.methodLink RX8 22 yX6_clear ∈ tz := tz_in 389 (by decide +kernel) (by decide +kernel)
theorem gv_X8_22 : GoodIn tz (wsV RX8 22 RX6 yX6_clear (wz yX6_clear cX6_clear 1 none)) := gdV ml_X8_22 im_X6_clear se_X6_clear ini_X6 cd_X6_clear
theorem ml_X8_33 : Cond.methodLink RX8 33 yX8_skipBlanks ∈ tz := tz_in 393 (by decide +kernel) (by decide +kernel)
theorem gv_X8_33 : GoodIn tz (wsV RX8 33 RX8 yX8_skipBlanks (wz yX8_skipBlanks cX8_skipBlanks 1 none)) := gdV ml_X8_33 im_X8_skipBlanks se_X8_skipBlanks ini_X8 cd_X8_skipBlanks
theorem ml_X8_36 : Cond.methodLink RX8 36 yX8_readClause ∈ tz := tz_in 397 (by decide +kernel) (by decide +kernel)
theorem gv_X8_36 : GoodIn tz (wsV RX8 36 RX8 yX8_readClause (wz yX8_readClause cX8_readClause 4 none)) := gdV ml_X8_36 im_X8_readClause se_X8_readClause ini_X8 cd_X8_readClause
theorem ml_X8_40 : Cond.methodLink RX8 40 yX8_letter ∈ tz := tz_in 401 (by decide +kernel) (by decide +kernel)
theorem gv_X8_40 : GoodIn tz (wsV RX8 40 RX8 yX8_letter (wz yX8_letter cX8_letter 1 (some .int))) := gdV ml_X8_40 im_X8_letter se_X8_letter ini_X8 cd_X8_letter
theorem ml_X8_44 : Cond.methodLink RX8 44 yX8_faultOfWord ∈ tz := tz_in 405 (by decide +kernel) (by decide +kernel)
theorem gv_X8_44 : GoodIn tz (va_wsS RX8 44 yX8_faultOfWord (wz yX8_faultOfWord cX8_faultOfWord 2 (some .int))) := gdS ml_X8_44 sm_X8_faultOfWord ini_X8 cd_X8_faultOfWord
theorem ml_X8_48 : Cond.methodLink RX8 48 yX8_mark ∈ tz := tz_in 412 (by decide +kernel) (by decide +kernel)
theorem gv_X8_48 : GoodIn tz (wsV RX8 48 RX8 yX8_mark (wz yX8_mark cX8_mark 3 none)) := gdV ml_X8_48 im_X8_mark se_X8_mark ini_X8 cd_X8_mark
theorem ml_X8_52 : Cond.methodLink RX8 52 yX8_readPits ∈ tz := tz_in 416 (by decide +kernel) (by decide +kernel)
theorem gv_X8_52 : GoodIn tz (wsV RX8 52 RX8 yX8_readPits (wz yX8_readPits cX8_readPits 2 none)) := gdV ml_X8_52 im_X8_readPits se_X8_readPits ini_X8 cd_X8_readPits
theorem ml_X8_55 : Cond.methodLink RX8 55 yX8_readMan ∈ tz := tz_in 428 (by decide +kernel) (by decide +kernel)
theorem gv_X8_55 : GoodIn tz (wsV RX8 55 RX8 yX8_readMan (wz yX8_readMan cX8_readMan 4 none)) := gdV ml_X8_55 im_X8_readMan se_X8_readMan ini_X8 cd_X8_readMan
theorem ml_X8_58 : Cond.methodLink RX8 58 yX8_readSaying ∈ tz := tz_in 436 (by decide +kernel) (by decide +kernel)
theorem gv_X8_58 : GoodIn tz (wsV RX8 58 RX8 yX8_readSaying (wz yX8_readSaying cX8_readSaying 3 none)) := gdV ml_X8_58 im_X8_readSaying se_X8_readSaying ini_X8 cd_X8_readSaying
theorem ml_X8_61 : Cond.methodLink RX8 61 yX8_skipMark ∈ tz := tz_in 432 (by decide +kernel) (by decide +kernel)
theorem gv_X8_61 : GoodIn tz (wsV RX8 61 RX8 yX8_skipMark (wz yX8_skipMark cX8_skipMark 2 none)) := gdV ml_X8_61 im_X8_skipMark se_X8_skipMark ini_X8 cd_X8_skipMark
theorem ml_X8_65 : Cond.methodLink RX8 65 yX6_isNone ∈ tz := tz_in 408 (by decide +kernel) (by decide +kernel)
theorem gv_X8_65 : GoodIn tz (wsV RX8 65 RX6 yX6_isNone (wz yX6_isNone cX6_isNone 1 (some .boolean))) := gdV ml_X8_65 im_X6_isNone se_X6_isNone ini_X6 cd_X6_isNone
theorem ml_X8_75 : Cond.methodLink RX8 75 yX8_readNumber ∈ tz := tz_in 420 (by decide +kernel) (by decide +kernel)
theorem gv_X8_75 : GoodIn tz (wsV RX8 75 RX8 yX8_readNumber (wz yX8_readNumber cX8_readNumber 6 (some .int))) := gdV ml_X8_75 im_X8_readNumber se_X8_readNumber ini_X8 cd_X8_readNumber
theorem ml_X8_98 : Cond.methodLink RX8 98 yX8_isFigure ∈ tz := tz_in 424 (by decide +kernel) (by decide +kernel)
theorem gv_X8_98 : GoodIn tz (va_wsS RX8 98 yX8_isFigure (wz yX8_isFigure cX8_isFigure 1 (some .boolean))) := gdS ml_X8_98 sm_X8_isFigure ini_X8 cd_X8_isFigure
theorem ml_X9_24 : Cond.methodLink RX9 24 yX3_copySkin ∈ tz := tz_in 668 (by decide +kernel) (by decide +kernel)
theorem gv_X9_24 : GoodIn tz (wsV RX9 24 RX3 yX3_copySkin (wz yX3_copySkin cX3_copySkin 3 none)) := gdV ml_X9_24 im_X3_copySkin se_X3_copySkin ini_X3 cd_X3_copySkin
theorem ml_X9_37 : Cond.methodLink RX9 37 yX9_clearNotes ∈ tz := tz_in 672 (by decide +kernel) (by decide +kernel)
theorem gv_X9_37 : GoodIn tz (wsV RX9 37 RX9 yX9_clearNotes (wz yX9_clearNotes cX9_clearNotes 1 none)) := gdV ml_X9_37 im_X9_clearNotes se_X9_clearNotes ini_X9 cd_X9_clearNotes
theorem ml_X9_40 : Cond.methodLink RX9 40 yX3_begin ∈ tz := tz_in 792 (by decide +kernel) (by decide +kernel)
theorem gv_X9_40 : GoodIn tz (wsV RX9 40 RX3 yX3_begin (wz yX3_begin cX3_begin 4 none)) := gdV ml_X9_40 im_X3_begin se_X3_begin ini_X3 cd_X3_begin
theorem ml_X9_56 : Cond.methodLink RX9 56 yX3_tan ∈ tz := tz_in 680 (by decide +kernel) (by decide +kernel)
theorem gv_X9_56 : GoodIn tz (wsV RX9 56 RX3 yX3_tan (wz yX3_tan cX3_tan 3 none)) := gdV ml_X9_56 im_X3_tan se_X3_tan ini_X3 cd_X3_tan
theorem ml_X9_60 : Cond.methodLink RX9 60 yX6_bearsAll ∈ tz := tz_in 689 (by decide +kernel) (by decide +kernel)
theorem gv_X9_60 : GoodIn tz (wsV RX9 60 RX6 yX6_bearsAll (wz yX6_bearsAll cX6_bearsAll 4 (some .boolean))) := gdV ml_X9_60 im_X6_bearsAll se_X6_bearsAll ini_X6 cd_X6_bearsAll
theorem ml_X9_64 : Cond.methodLink RX9 64 yX9_passMonth ∈ tz := tz_in 693 (by decide +kernel) (by decide +kernel)
theorem gv_X9_64 : GoodIn tz (wsV RX9 64 RX9 yX9_passMonth (wz yX9_passMonth cX9_passMonth 1 none)) := gdV ml_X9_64 im_X9_passMonth se_X9_passMonth ini_X9 cd_X9_passMonth
theorem ml_X9_67 : Cond.methodLink RX9 67 yX6_pain ∈ tz := tz_in 698 (by decide +kernel) (by decide +kernel)
theorem gv_X9_67 : GoodIn tz (wsV RX9 67 RX6 yX6_pain (wz yX6_pain cX6_pain 4 (some .int))) := gdV ml_X9_67 im_X6_pain se_X6_pain ini_X6 cd_X6_pain
theorem ml_L_13 : Cond.methodLink RL 13 yX10_feed ∈ tz := tz_in 368 (by decide +kernel) (by decide +kernel)
theorem gv_L_13 : GoodIn tz (wsV RL 13 RX10 yX10_feed (wz yX10_feed cX10_feed 2 (some .int))) := gdV ml_L_13 im_X10_feed se_X10_feed ini_X10 cd_X10_feed
theorem ml_L_17 : Cond.methodLink RL 17 yX11_feed ∈ tz := tz_in 994 (by decide +kernel) (by decide +kernel)
theorem gv_L_17 : GoodIn tz (wsV RL 17 RX11 yX11_feed (wz yX11_feed cX11_feed 2 (some .int))) := gdV ml_L_17 im_X11_feed se_X11_feed ini_X11 cd_X11_feed
theorem ml_L_18 : Cond.methodLink RL 18 yX10_yard ∈ tz := tz_in 381 (by decide +kernel) (by decide +kernel)
theorem gv_L_18 : GoodIn tz (wsV RL 18 RX10 yX10_yard (wz yX10_yard cX10_yard 2 (some .int))) := gdV ml_L_18 im_X10_yard se_X10_yard ini_X10 cd_X10_yard
theorem ml_L_22 : Cond.methodLink RL 22 yX11_yard ∈ tz := tz_in 1004 (by decide +kernel) (by decide +kernel)
theorem gv_L_22 : GoodIn tz (wsV RL 22 RX11 yX11_yard (wz yX11_yard cX11_yard 2 (some .int))) := gdV ml_L_22 im_X11_yard se_X11_yard ini_X11 cd_X11_yard
theorem ml_L_23 : Cond.methodLink RL 23 yX10_fault ∈ tz := tz_in 448 (by decide +kernel) (by decide +kernel)
theorem gv_L_23 : GoodIn tz (wsV RL 23 RX10 yX10_fault (wz yX10_fault cX10_fault 1 (some .int))) := gdV ml_L_23 im_X10_fault se_X10_fault ini_X10 cd_X10_fault
theorem ml_L_26 : Cond.methodLink RL 26 yX11_fault ∈ tz := tz_in 1050 (by decide +kernel) (by decide +kernel)
theorem gv_L_26 : GoodIn tz (wsV RL 26 RX11 yX11_fault (wz yX11_fault cX11_fault 1 (some .int))) := gdV ml_L_26 im_X11_fault se_X11_fault ini_X11 cd_X11_fault
theorem ml_L_27 : Cond.methodLink RL 27 yX10_told ∈ tz := tz_in 452 (by decide +kernel) (by decide +kernel)
theorem gv_L_27 : GoodIn tz (wsV RL 27 RX10 yX10_told (wz yX10_told cX10_told 2 (some .int))) := gdV ml_L_27 im_X10_told se_X10_told ini_X10 cd_X10_told
theorem ml_L_30 : Cond.methodLink RL 30 yX11_told ∈ tz := tz_in 1054 (by decide +kernel) (by decide +kernel)
theorem gv_L_30 : GoodIn tz (wsV RL 30 RX11 yX11_told (wz yX11_told cX11_told 2 (some .int))) := gdV ml_L_30 im_X11_told se_X11_told ini_X11 cd_X11_told
theorem ml_L_31 : Cond.methodLink RL 31 yX10_man ∈ tz := tz_in 496 (by decide +kernel) (by decide +kernel)
theorem gv_L_31 : GoodIn tz (wsV RL 31 RX10 yX10_man (wz yX10_man cX10_man 4 (some .int))) := gdV ml_L_31 im_X10_man se_X10_man ini_X10 cd_X10_man
theorem ml_L_35 : Cond.methodLink RL 35 yX11_man ∈ tz := tz_in 1088 (by decide +kernel) (by decide +kernel)
theorem gv_L_35 : GoodIn tz (wsV RL 35 RX11 yX11_man (wz yX11_man cX11_man 3 (some .int))) := gdV ml_L_35 im_X11_man se_X11_man ini_X11 cd_X11_man
theorem ml_L_36 : Cond.methodLink RL 36 yX10_skin ∈ tz := tz_in 513 (by decide +kernel) (by decide +kernel)
theorem gv_L_36 : GoodIn tz (wsV RL 36 RX10 yX10_skin (wz yX10_skin cX10_skin 5 (some .int))) := gdV ml_L_36 im_X10_skin se_X10_skin ini_X10 cd_X10_skin
theorem ml_L_40 : Cond.methodLink RL 40 yX11_skin ∈ tz := tz_in 1105 (by decide +kernel) (by decide +kernel)
theorem gv_L_40 : GoodIn tz (wsV RL 40 RX11 yX11_skin (wz yX11_skin cX11_skin 4 (some .int))) := gdV ml_L_40 im_X11_skin se_X11_skin ini_X11 cd_X11_skin
theorem ml_L_41 : Cond.methodLink RL 41 yX10_saying ∈ tz := tz_in 517 (by decide +kernel) (by decide +kernel)
theorem gv_L_41 : GoodIn tz (wsV RL 41 RX10 yX10_saying (wz yX10_saying cX10_saying 3 (some .int))) := gdV ml_L_41 im_X10_saying se_X10_saying ini_X10 cd_X10_saying
theorem ml_L_44 : Cond.methodLink RL 44 yX11_saying ∈ tz := tz_in 1113 (by decide +kernel) (by decide +kernel)
theorem gv_L_44 : GoodIn tz (wsV RL 44 RX11 yX11_saying (wz yX11_saying cX11_saying 3 (some .int))) := gdV ml_L_44 im_X11_saying se_X11_saying ini_X11 cd_X11_saying
theorem ml_L_45 : Cond.methodLink RL 45 yX10_hurt ∈ tz := tz_in 525 (by decide +kernel) (by decide +kernel)
theorem gv_L_45 : GoodIn tz (wsV RL 45 RX10 yX10_hurt (wz yX10_hurt cX10_hurt 3 (some .int))) := gdV ml_L_45 im_X10_hurt se_X10_hurt ini_X10 cd_X10_hurt
theorem ml_L_48 : Cond.methodLink RL 48 yX11_hurt ∈ tz := tz_in 1121 (by decide +kernel) (by decide +kernel)
theorem gv_L_48 : GoodIn tz (wsV RL 48 RX11 yX11_hurt (wz yX11_hurt cX11_hurt 3 (some .int))) := gdV ml_L_48 im_X11_hurt se_X11_hurt ini_X11 cd_X11_hurt
theorem ml_L_49 : Cond.methodLink RL 49 yX10_month ∈ tz := tz_in 530 (by decide +kernel) (by decide +kernel)
theorem gv_L_49 : GoodIn tz (wsV RL 49 RX10 yX10_month (wz yX10_month cX10_month 4 (some .int))) := gdV ml_L_49 im_X10_month se_X10_month ini_X10 cd_X10_month
theorem ml_L_52 : Cond.methodLink RL 52 yX11_month ∈ tz := tz_in 1125 (by decide +kernel) (by decide +kernel)
theorem gv_L_52 : GoodIn tz (wsV RL 52 RX11 yX11_month (wz yX11_month cX11_month 4 (some .int))) := gdV ml_L_52 im_X11_month se_X11_month ini_X11 cd_X11_month
theorem ml_L_53 : Cond.methodLink RL 53 yX10_in ∈ tz := tz_in 579 (by decide +kernel) (by decide +kernel)
theorem gv_L_53 : GoodIn tz (wsV RL 53 RX10 yX10_in (wz yX10_in cX10_in 2 (some .int))) := gdV ml_L_53 im_X10_in se_X10_in ini_X10 cd_X10_in
theorem ml_L_56 : Cond.methodLink RL 56 yX11_in ∈ tz := tz_in 1153 (by decide +kernel) (by decide +kernel)
theorem gv_L_56 : GoodIn tz (wsV RL 56 RX11 yX11_in (wz yX11_in cX11_in 2 (some .int))) := gdV ml_L_56 im_X11_in se_X11_in ini_X11 cd_X11_in
theorem ml_L_57 : Cond.methodLink RL 57 yX10_out ∈ tz := tz_in 594 (by decide +kernel) (by decide +kernel)
theorem gv_L_57 : GoodIn tz (wsV RL 57 RX10 yX10_out (wz yX10_out cX10_out 2 (some .int))) := gdV ml_L_57 im_X10_out se_X10_out ini_X10 cd_X10_out
theorem ml_L_60 : Cond.methodLink RL 60 yX11_out ∈ tz := tz_in 1164 (by decide +kernel) (by decide +kernel)
theorem gv_L_60 : GoodIn tz (wsV RL 60 RX11 yX11_out (wz yX11_out cX11_out 2 (some .int))) := gdV ml_L_60 im_X11_out se_X11_out ini_X11 cd_X11_out
theorem ml_L_61 : Cond.methodLink RL 61 yX10_scrape ∈ tz := tz_in 598 (by decide +kernel) (by decide +kernel)
theorem gv_L_61 : GoodIn tz (wsV RL 61 RX10 yX10_scrape (wz yX10_scrape cX10_scrape 4 (some .int))) := gdV ml_L_61 im_X10_scrape se_X10_scrape ini_X10 cd_X10_scrape
theorem ml_L_64 : Cond.methodLink RL 64 yX11_scrape ∈ tz := tz_in 1168 (by decide +kernel) (by decide +kernel)
theorem gv_L_64 : GoodIn tz (wsV RL 64 RX11 yX11_scrape (wz yX11_scrape cX11_scrape 4 (some .int))) := gdV ml_L_64 im_X11_scrape se_X11_scrape ini_X11 cd_X11_scrape
theorem ml_L_65 : Cond.methodLink RL 65 yX10_say ∈ tz := tz_in 608 (by decide +kernel) (by decide +kernel)
theorem gv_L_65 : GoodIn tz (wsV RL 65 RX10 yX10_say (wz yX10_say cX10_say 3 (some .int))) := gdV ml_L_65 im_X10_say se_X10_say ini_X10 cd_X10_say
theorem ml_L_68 : Cond.methodLink RL 68 yX11_say ∈ tz := tz_in 1178 (by decide +kernel) (by decide +kernel)
theorem gv_L_68 : GoodIn tz (wsV RL 68 RX11 yX11_say (wz yX11_say cX11_say 3 (some .int))) := gdV ml_L_68 im_X11_say se_X11_say ini_X11 cd_X11_say
theorem ml_L_69 : Cond.methodLink RL 69 yX10_bark ∈ tz := tz_in 617 (by decide +kernel) (by decide +kernel)
theorem gv_L_69 : GoodIn tz (wsV RL 69 RX10 yX10_bark (wz yX10_bark cX10_bark 3 (some .int))) := gdV ml_L_69 im_X10_bark se_X10_bark ini_X10 cd_X10_bark
theorem ml_L_72 : Cond.methodLink RL 72 yX11_bark ∈ tz := tz_in 1187 (by decide +kernel) (by decide +kernel)
theorem gv_L_72 : GoodIn tz (wsV RL 72 RX11 yX11_bark (wz yX11_bark cX11_bark 3 (some .int))) := gdV ml_L_72 im_X11_bark se_X11_bark ini_X11 cd_X11_bark
theorem ml_L_73 : Cond.methodLink RL 73 yX10_drift ∈ tz := tz_in 621 (by decide +kernel) (by decide +kernel)
theorem gv_L_73 : GoodIn tz (wsV RL 73 RX10 yX10_drift (wz yX10_drift cX10_drift 4 (some .int))) := gdV ml_L_73 im_X10_drift se_X10_drift ini_X10 cd_X10_drift
theorem ml_L_76 : Cond.methodLink RL 76 yX11_drift ∈ tz := tz_in 1192 (by decide +kernel) (by decide +kernel)
theorem gv_L_76 : GoodIn tz (wsV RL 76 RX11 yX11_drift (wz yX11_drift cX11_drift 4 (some .int))) := gdV ml_L_76 im_X11_drift se_X11_drift ini_X11 cd_X11_drift
theorem ml_L_77 : Cond.methodLink RL 77 yX10_undo ∈ tz := tz_in 644 (by decide +kernel) (by decide +kernel)
theorem gv_L_77 : GoodIn tz (wsV RL 77 RX10 yX10_undo (wz yX10_undo cX10_undo 1 (some .int))) := gdV ml_L_77 im_X10_undo se_X10_undo ini_X10 cd_X10_undo
theorem ml_L_80 : Cond.methodLink RL 80 yX11_undo ∈ tz := tz_in 1208 (by decide +kernel) (by decide +kernel)
theorem gv_L_80 : GoodIn tz (wsV RL 80 RX11 yX11_undo (wz yX11_undo cX11_undo 2 (some .int))) := gdV ml_L_80 im_X11_undo se_X11_undo ini_X11 cd_X11_undo
theorem ml_L_81 : Cond.methodLink RL 81 yX10_thick ∈ tz := tz_in 660 (by decide +kernel) (by decide +kernel)
theorem gv_L_81 : GoodIn tz (wsV RL 81 RX10 yX10_thick (wz yX10_thick cX10_thick 5 (some .int))) := gdV ml_L_81 im_X10_thick se_X10_thick ini_X10 cd_X10_thick
theorem ml_L_84 : Cond.methodLink RL 84 yX11_thick ∈ tz := tz_in 1212 (by decide +kernel) (by decide +kernel)
theorem gv_L_84 : GoodIn tz (wsV RL 84 RX11 yX11_thick (wz yX11_thick cX11_thick 5 (some .int))) := gdV ml_L_84 im_X11_thick se_X11_thick ini_X11 cd_X11_thick
theorem ml_L_85 : Cond.methodLink RL 85 yX10_when ∈ tz := tz_in 681 (by decide +kernel) (by decide +kernel)
theorem gv_L_85 : GoodIn tz (wsV RL 85 RX10 yX10_when (wz yX10_when cX10_when 4 (some .int))) := gdV ml_L_85 im_X10_when se_X10_when ini_X10 cd_X10_when
theorem ml_L_88 : Cond.methodLink RL 88 yX11_when ∈ tz := tz_in 1217 (by decide +kernel) (by decide +kernel)
theorem gv_L_88 : GoodIn tz (wsV RL 88 RX11 yX11_when (wz yX11_when cX11_when 7 (some .int))) := gdV ml_L_88 im_X11_when se_X11_when ini_X11 cd_X11_when
theorem ml_L_89 : Cond.methodLink RL 89 yX10_edge ∈ tz := tz_in 699 (by decide +kernel) (by decide +kernel)
theorem gv_L_89 : GoodIn tz (wsV RL 89 RX10 yX10_edge (wz yX10_edge cX10_edge 6 (some .int))) := gdV ml_L_89 im_X10_edge se_X10_edge ini_X10 cd_X10_edge
theorem ml_L_93 : Cond.methodLink RL 93 yX11_edge ∈ tz := tz_in 1221 (by decide +kernel) (by decide +kernel)
theorem gv_L_93 : GoodIn tz (wsV RL 93 RX11 yX11_edge (wz yX11_edge cX11_edge 9 (some .int))) := gdV ml_L_93 im_X11_edge se_X11_edge ini_X11 cd_X11_edge
theorem ml_L_94 : Cond.methodLink RL 94 yX10_scraping ∈ tz := tz_in 720 (by decide +kernel) (by decide +kernel)
theorem gv_L_94 : GoodIn tz (wsV RL 94 RX10 yX10_scraping (wz yX10_scraping cX10_scraping 3 (some .int))) := gdV ml_L_94 im_X10_scraping se_X10_scraping ini_X10 cd_X10_scraping
theorem ml_L_97 : Cond.methodLink RL 97 yX11_scraping ∈ tz := tz_in 1230 (by decide +kernel) (by decide +kernel)
theorem gv_L_97 : GoodIn tz (wsV RL 97 RX11 yX11_scraping (wz yX11_scraping cX11_scraping 8 (some .int))) := gdV ml_L_97 im_X11_scraping se_X11_scraping ini_X11 cd_X11_scraping
theorem ml_L_98 : Cond.methodLink RL 98 yX10_through ∈ tz := tz_in 732 (by decide +kernel) (by decide +kernel)
theorem gv_L_98 : GoodIn tz (wsV RL 98 RX10 yX10_through (wz yX10_through cX10_through 4 (some .int))) := gdV ml_L_98 im_X10_through se_X10_through ini_X10 cd_X10_through
theorem ml_L_101 : Cond.methodLink RL 101 yX11_through ∈ tz := tz_in 1234 (by decide +kernel) (by decide +kernel)
theorem gv_L_101 : GoodIn tz (wsV RL 101 RX11 yX11_through (wz yX11_through cX11_through 5 (some .int))) := gdV ml_L_101 im_X11_through se_X11_through ini_X11 cd_X11_through
theorem ml_L_102 : Cond.methodLink RL 102 yX10_over ∈ tz := tz_in 759 (by decide +kernel) (by decide +kernel)
theorem gv_L_102 : GoodIn tz (wsV RL 102 RX10 yX10_over (wz yX10_over cX10_over 3 (some .int))) := gdV ml_L_102 im_X10_over se_X10_over ini_X10 cd_X10_over
theorem ml_L_105 : Cond.methodLink RL 105 yX11_over ∈ tz := tz_in 1242 (by decide +kernel) (by decide +kernel)
theorem gv_L_105 : GoodIn tz (wsV RL 105 RX11 yX11_over (wz yX11_over cX11_over 7 (some .int))) := gdV ml_L_105 im_X11_over se_X11_over ini_X11 cd_X11_over
theorem ml_L_106 : Cond.methodLink RL 106 yX10_quiet ∈ tz := tz_in 770 (by decide +kernel) (by decide +kernel)
theorem gv_L_106 : GoodIn tz (wsV RL 106 RX10 yX10_quiet (wz yX10_quiet cX10_quiet 6 (some .int))) := gdV ml_L_106 im_X10_quiet se_X10_quiet ini_X10 cd_X10_quiet
theorem ml_L_109 : Cond.methodLink RL 109 yX11_quiet ∈ tz := tz_in 1246 (by decide +kernel) (by decide +kernel)
theorem gv_L_109 : GoodIn tz (wsV RL 109 RX11 yX11_quiet (wz yX11_quiet cX11_quiet 6 (some .int))) := gdV ml_L_109 im_X11_quiet se_X11_quiet ini_X11 cd_X11_quiet
theorem ml_L_110 : Cond.methodLink RL 110 yX10_hear ∈ tz := tz_in 776 (by decide +kernel) (by decide +kernel)
theorem gv_L_110 : GoodIn tz (wsV RL 110 RX10 yX10_hear (wz yX10_hear cX10_hear 4 (some .int))) := gdV ml_L_110 im_X10_hear se_X10_hear ini_X10 cd_X10_hear
theorem ml_L_113 : Cond.methodLink RL 113 yX11_hear ∈ tz := tz_in 1252 (by decide +kernel) (by decide +kernel)
theorem gv_L_113 : GoodIn tz (wsV RL 113 RX11 yX11_hear (wz yX11_hear cX11_hear 4 (some .int))) := gdV ml_L_113 im_X11_hear se_X11_hear ini_X11 cd_X11_hear
theorem ml_L_114 : Cond.methodLink RL 114 yX10_stays ∈ tz := tz_in 784 (by decide +kernel) (by decide +kernel)
theorem gv_L_114 : GoodIn tz (wsV RL 114 RX10 yX10_stays (wz yX10_stays cX10_stays 4 (some .int))) := gdV ml_L_114 im_X10_stays se_X10_stays ini_X10 cd_X10_stays
theorem ml_L_117 : Cond.methodLink RL 117 yX11_stays ∈ tz := tz_in 1257 (by decide +kernel) (by decide +kernel)
theorem gv_L_117 : GoodIn tz (wsV RL 117 RX11 yX11_stays (wz yX11_stays cX11_stays 7 (some .int))) := gdV ml_L_117 im_X11_stays se_X11_stays ini_X11 cd_X11_stays
theorem ml_L_118 : Cond.methodLink RL 118 yX10_ask ∈ tz := tz_in 798 (by decide +kernel) (by decide +kernel)
theorem gv_L_118 : GoodIn tz (wsV RL 118 RX10 yX10_ask (wz yX10_ask cX10_ask 3 (some .int))) := gdV ml_L_118 im_X10_ask se_X10_ask ini_X10 cd_X10_ask
theorem ml_L_121 : Cond.methodLink RL 121 yX11_ask ∈ tz := tz_in 1269 (by decide +kernel) (by decide +kernel)
theorem gv_L_121 : GoodIn tz (wsV RL 121 RX11 yX11_ask (wz yX11_ask cX11_ask 9 (some .int))) := gdV ml_L_121 im_X11_ask se_X11_ask ini_X11 cd_X11_ask
theorem ml_L_122 : Cond.methodLink RL 122 yX10_write ∈ tz := tz_in 815 (by decide +kernel) (by decide +kernel)
theorem gv_L_122 : GoodIn tz (wsV RL 122 RX10 yX10_write (wz yX10_write cX10_write 3 (some .int))) := gdV ml_L_122 im_X10_write se_X10_write ini_X10 cd_X10_write
theorem ml_L_125 : Cond.methodLink RL 125 yX11_write ∈ tz := tz_in 1273 (by decide +kernel) (by decide +kernel)
theorem gv_L_125 : GoodIn tz (wsV RL 125 RX11 yX11_write (wz yX11_write cX11_write 3 (some .int))) := gdV ml_L_125 im_X11_write se_X11_write ini_X11 cd_X11_write
theorem ml_L_126 : Cond.methodLink RL 126 yX10_tear ∈ tz := tz_in 824 (by decide +kernel) (by decide +kernel)
theorem gv_L_126 : GoodIn tz (wsV RL 126 RX10 yX10_tear (wz yX10_tear cX10_tear 2 (some .int))) := gdV ml_L_126 im_X10_tear se_X10_tear ini_X10 cd_X10_tear
theorem ml_L_129 : Cond.methodLink RL 129 yX11_tear ∈ tz := tz_in 1278 (by decide +kernel) (by decide +kernel)
theorem gv_L_129 : GoodIn tz (wsV RL 129 RX11 yX11_tear (wz yX11_tear cX11_tear 2 (some .int))) := gdV ml_L_129 im_X11_tear se_X11_tear ini_X11 cd_X11_tear
theorem ml_L_130 : Cond.methodLink RL 130 yX10_judge ∈ tz := tz_in 828 (by decide +kernel) (by decide +kernel)
theorem gv_L_130 : GoodIn tz (wsV RL 130 RX10 yX10_judge (wz yX10_judge cX10_judge 1 (some .int))) := gdV ml_L_130 im_X10_judge se_X10_judge ini_X10 cd_X10_judge
theorem ml_L_133 : Cond.methodLink RL 133 yX11_judge ∈ tz := tz_in 1282 (by decide +kernel) (by decide +kernel)
theorem gv_L_133 : GoodIn tz (wsV RL 133 RX11 yX11_judge (wz yX11_judge cX11_judge 2 (some .int))) := gdV ml_L_133 im_X11_judge se_X11_judge ini_X11 cd_X11_judge
theorem ml_L_134 : Cond.methodLink RL 134 yX10_seed ∈ tz := tz_in 836 (by decide +kernel) (by decide +kernel)
theorem gv_L_134 : GoodIn tz (wsV RL 134 RX10 yX10_seed (wz yX10_seed cX10_seed 3 (some .int))) := gdV ml_L_134 im_X10_seed se_X10_seed ini_X10 cd_X10_seed
theorem ml_L_137 : Cond.methodLink RL 137 yX11_seed ∈ tz := tz_in 1286 (by decide +kernel) (by decide +kernel)
theorem gv_L_137 : GoodIn tz (wsV RL 137 RX11 yX11_seed (wz yX11_seed cX11_seed 3 (some .int))) := gdV ml_L_137 im_X11_seed se_X11_seed ini_X11 cd_X11_seed
theorem ml_L_138 : Cond.methodLink RL 138 yX10_keep ∈ tz := tz_in 840 (by decide +kernel) (by decide +kernel)
theorem gv_L_138 : GoodIn tz (wsV RL 138 RX10 yX10_keep (wz yX10_keep cX10_keep 2 (some .int))) := gdV ml_L_138 im_X10_keep se_X10_keep ini_X10 cd_X10_keep
theorem ml_L_141 : Cond.methodLink RL 141 yX11_keep ∈ tz := tz_in 1290 (by decide +kernel) (by decide +kernel)
theorem gv_L_141 : GoodIn tz (wsV RL 141 RX11 yX11_keep (wz yX11_keep cX11_keep 3 (some .int))) := gdV ml_L_141 im_X11_keep se_X11_keep ini_X11 cd_X11_keep
theorem ml_L_142 : Cond.methodLink RL 142 yX10_goBack ∈ tz := tz_in 848 (by decide +kernel) (by decide +kernel)
theorem gv_L_142 : GoodIn tz (wsV RL 142 RX10 yX10_goBack (wz yX10_goBack cX10_goBack 2 (some .int))) := gdV ml_L_142 im_X10_goBack se_X10_goBack ini_X10 cd_X10_goBack
theorem ml_L_145 : Cond.methodLink RL 145 yX11_goBack ∈ tz := tz_in 1294 (by decide +kernel) (by decide +kernel)
theorem gv_L_145 : GoodIn tz (wsV RL 145 RX11 yX11_goBack (wz yX11_goBack cX11_goBack 3 (some .int))) := gdV ml_L_145 im_X11_goBack se_X11_goBack ini_X11 cd_X11_goBack
theorem ml_X11_96 : Cond.methodLink RX11 96 yX11_within ∈ tz := tz_in 999 (by decide +kernel) (by decide +kernel)
theorem gv_X11_96 : GoodIn tz (va_wsS RX11 96 yX11_within (wz yX11_within cX11_within 6 (some .boolean))) := gdS ml_X11_96 sm_X11_within ini_X11 cd_X11_within
theorem ml_X11_115 : Cond.methodLink RX11 115 yX11_here ∈ tz := tz_in 1008 (by decide +kernel) (by decide +kernel)
theorem gv_X11_115 : GoodIn tz (wsV RX11 115 RX11 yX11_here (wz yX11_here cX11_here 1 (some .int))) := gdV ml_X11_115 im_X11_here se_X11_here ini_X11 cd_X11_here
theorem ml_X11_123 : Cond.methodLink RX11 123 yX11_fails ∈ tz := tz_in 1016 (by decide +kernel) (by decide +kernel)
theorem gv_X11_123 : GoodIn tz (wsV RX11 123 RX11 yX11_fails (wz yX11_fails cX11_fails 3 (some .int))) := gdV ml_X11_123 im_X11_fails se_X11_fails ini_X11 cd_X11_fails
theorem ml_X11_133 : Cond.methodLink RX11 133 yX11_takeNumber ∈ tz := tz_in 1032 (by decide +kernel) (by decide +kernel)
theorem gv_X11_133 : GoodIn tz (wsV RX11 133 RX11 yX11_takeNumber (wz yX11_takeNumber cX11_takeNumber 4 (some .int))) := gdV ml_X11_133 im_X11_takeNumber se_X11_takeNumber ini_X11 cd_X11_takeNumber
theorem ml_X11_148 : Cond.methodLink RX11 148 yX11_takePits ∈ tz := tz_in 1028 (by decide +kernel) (by decide +kernel)
theorem gv_X11_148 : GoodIn tz (wsV RX11 148 RX11 yX11_takePits (wz yX11_takePits cX11_takePits 3 (some .int))) := gdV ml_X11_148 im_X11_takePits se_X11_takePits ini_X11 cd_X11_takePits
theorem ml_X11_151 : Cond.methodLink RX11 151 yX11_takeMan ∈ tz := tz_in 1038 (by decide +kernel) (by decide +kernel)
theorem gv_X11_151 : GoodIn tz (wsV RX11 151 RX11 yX11_takeMan (wz yX11_takeMan cX11_takeMan 3 (some .int))) := gdV ml_X11_151 im_X11_takeMan se_X11_takeMan ini_X11 cd_X11_takeMan
theorem ml_X11_154 : Cond.methodLink RX11 154 yX11_takeSaying ∈ tz := tz_in 1042 (by decide +kernel) (by decide +kernel)
theorem gv_X11_154 : GoodIn tz (wsV RX11 154 RX11 yX11_takeSaying (wz yX11_takeSaying cX11_takeSaying 2 (some .int))) := gdV ml_X11_154 im_X11_takeSaying se_X11_takeSaying ini_X11 cd_X11_takeSaying
theorem ml_X11_157 : Cond.methodLink RX11 157 yX11_isFull ∈ tz := tz_in 1020 (by decide +kernel) (by decide +kernel)
theorem gv_X11_157 : GoodIn tz (wsV RX11 157 RX11 yX11_isFull (wz yX11_isFull cX11_isFull 2 (some .boolean))) := gdV ml_X11_157 im_X11_isFull se_X11_isFull ini_X11 cd_X11_isFull
theorem ml_X11_161 : Cond.methodLink RX11 161 yX11_takeBody ∈ tz := tz_in 1024 (by decide +kernel) (by decide +kernel)
theorem gv_X11_161 : GoodIn tz (wsV RX11 161 RX11 yX11_takeBody (wz yX11_takeBody cX11_takeBody 2 (some .int))) := gdV ml_X11_161 im_X11_takeBody se_X11_takeBody ini_X11 cd_X11_takeBody
theorem ml_X11_168 : Cond.methodLink RX11 168 yX11_takeClause ∈ tz := tz_in 1012 (by decide +kernel) (by decide +kernel)
theorem gv_X11_168 : GoodIn tz (wsV RX11 168 RX11 yX11_takeClause (wz yX11_takeClause cX11_takeClause 4 (some .int))) := gdV ml_X11_168 im_X11_takeClause se_X11_takeClause ini_X11 cd_X11_takeClause
theorem ml_X11_171 : Cond.methodLink RX11 171 yX11_takeRead ∈ tz := tz_in 1046 (by decide +kernel) (by decide +kernel)
theorem gv_X11_171 : GoodIn tz (wsV RX11 171 RX11 yX11_takeRead (wz yX11_takeRead cX11_takeRead 2 none)) := gdV ml_X11_171 im_X11_takeRead se_X11_takeRead ini_X11 cd_X11_takeRead
theorem ml_X11_183 : Cond.methodLink RX11 183 yX11_capped ∈ tz := tz_in 1150 (by decide +kernel) (by decide +kernel)
theorem gv_X11_183 : GoodIn tz (va_wsS RX11 183 yX11_capped (wz yX11_capped cX11_capped 1 (some .int))) := gdS ml_X11_183 sm_X11_capped ini_X11 cd_X11_capped
theorem ml_X11_186 : Cond.methodLink RX11 186 yX11_hurts ∈ tz := tz_in 1075 (by decide +kernel) (by decide +kernel)
theorem gv_X11_186 : GoodIn tz (wsV RX11 186 RX11 yX11_hurts (wz yX11_hurts cX11_hurts 3 (some .int))) := gdV ml_X11_186 im_X11_hurts se_X11_hurts ini_X11 cd_X11_hurts
theorem ml_X11_189 : Cond.methodLink RX11 189 yX11_takesSkin ∈ tz := tz_in 1071 (by decide +kernel) (by decide +kernel)
theorem gv_X11_189 : GoodIn tz (wsV RX11 189 RX11 yX11_takesSkin (wz yX11_takesSkin cX11_takesSkin 3 none)) := gdV ml_X11_189 im_X11_takesSkin se_X11_takesSkin ini_X11 cd_X11_takesSkin
theorem ml_X11_194 : Cond.methodLink RX11 194 yX11_hurtOf ∈ tz := tz_in 1067 (by decide +kernel) (by decide +kernel)
theorem gv_X11_194 : GoodIn tz (wsV RX11 194 RX11 yX11_hurtOf (wz yX11_hurtOf cX11_hurtOf 3 (some .int))) := gdV ml_X11_194 im_X11_hurtOf se_X11_hurtOf ini_X11 cd_X11_hurtOf
theorem ml_X11_198 : Cond.methodLink RX11 198 yX11_woundsAll ∈ tz := tz_in 1058 (by decide +kernel) (by decide +kernel)
theorem gv_X11_198 : GoodIn tz (wsV RX11 198 RX11 yX11_woundsAll (wz yX11_woundsAll cX11_woundsAll 3 (some .int))) := gdV ml_X11_198 im_X11_woundsAll se_X11_woundsAll ini_X11 cd_X11_woundsAll
theorem ml_X11_201 : Cond.methodLink RX11 201 yX11_bestMan ∈ tz := tz_in 1062 (by decide +kernel) (by decide +kernel)
theorem gv_X11_201 : GoodIn tz (wsV RX11 201 RX11 yX11_bestMan (wz yX11_bestMan cX11_bestMan 6 (some .int))) := gdV ml_X11_201 im_X11_bestMan se_X11_bestMan ini_X11 cd_X11_bestMan
theorem ml_X11_204 : Cond.methodLink RX11 204 yX11_chosen ∈ tz := tz_in 1079 (by decide +kernel) (by decide +kernel)
theorem gv_X11_204 : GoodIn tz (wsV RX11 204 RX11 yX11_chosen (wz yX11_chosen cX11_chosen 6 (some .int))) := gdV ml_X11_204 im_X11_chosen se_X11_chosen ini_X11 cd_X11_chosen
theorem ml_X11_207 : Cond.methodLink RX11 207 yX11_tender ∈ tz := tz_in 1083 (by decide +kernel) (by decide +kernel)
theorem gv_X11_207 : GoodIn tz (wsV RX11 207 RX11 yX11_tender (wz yX11_tender cX11_tender 5 (some .int))) := gdV ml_X11_207 im_X11_tender se_X11_tender ini_X11 cd_X11_tender
theorem ml_X11_210 : Cond.methodLink RX11 210 yX11_isMan ∈ tz := tz_in 1092 (by decide +kernel) (by decide +kernel)
theorem gv_X11_210 : GoodIn tz (wsV RX11 210 RX11 yX11_isMan (wz yX11_isMan cX11_isMan 2 (some .boolean))) := gdV ml_X11_210 im_X11_isMan se_X11_isMan ini_X11 cd_X11_isMan
theorem ml_X11_214 : Cond.methodLink RX11 214 yX11_borneNow ∈ tz := tz_in 1097 (by decide +kernel) (by decide +kernel)
theorem gv_X11_214 : GoodIn tz (wsV RX11 214 RX11 yX11_borneNow (wz yX11_borneNow cX11_borneNow 3 (some .int))) := gdV ml_X11_214 im_X11_borneNow se_X11_borneNow ini_X11 cd_X11_borneNow
theorem ml_X11_217 : Cond.methodLink RX11 217 yX11_feltNow ∈ tz := tz_in 1101 (by decide +kernel) (by decide +kernel)
theorem gv_X11_217 : GoodIn tz (wsV RX11 217 RX11 yX11_feltNow (wz yX11_feltNow cX11_feltNow 3 (some .int))) := gdV ml_X11_217 im_X11_feltNow se_X11_feltNow ini_X11 cd_X11_feltNow
theorem ml_X11_220 : Cond.methodLink RX11 220 yX11_isPlace ∈ tz := tz_in 1109 (by decide +kernel) (by decide +kernel)
theorem gv_X11_220 : GoodIn tz (va_wsS RX11 220 yX11_isPlace (wz yX11_isPlace cX11_isPlace 1 (some .boolean))) := gdS ml_X11_220 sm_X11_isPlace ini_X11 cd_X11_isPlace
theorem ml_X11_223 : Cond.methodLink RX11 223 yX11_isSaying ∈ tz := tz_in 1117 (by decide +kernel) (by decide +kernel)
theorem gv_X11_223 : GoodIn tz (wsV RX11 223 RX11 yX11_isSaying (wz yX11_isSaying cX11_isSaying 2 (some .boolean))) := gdV ml_X11_223 im_X11_isSaying se_X11_isSaying ini_X11 cd_X11_isSaying
theorem ml_X11_226 : Cond.methodLink RX11 226 yX11_has ∈ tz := tz_in 1143 (by decide +kernel) (by decide +kernel)
theorem gv_X11_226 : GoodIn tz (va_wsS RX11 226 yX11_has (wz yX11_has cX11_has 2 (some .boolean))) := gdS ml_X11_226 sm_X11_has ini_X11 cd_X11_has
theorem ml_X11_230 : Cond.methodLink RX11 230 yX11_tans ∈ tz := tz_in 1146 (by decide +kernel) (by decide +kernel)
theorem gv_X11_230 : GoodIn tz (wsV RX11 230 RX11 yX11_tans (wz yX11_tans cX11_tans 7 none)) := gdV ml_X11_230 im_X11_tans se_X11_tans ini_X11 cd_X11_tans
theorem ml_X11_237 : Cond.methodLink RX11 237 yX11_monthsRefused ∈ tz := tz_in 1129 (by decide +kernel) (by decide +kernel)
theorem gv_X11_237 : GoodIn tz (wsV RX11 237 RX11 yX11_monthsRefused (wz yX11_monthsRefused cX11_monthsRefused 2 (some .int))) := gdV ml_X11_237 im_X11_monthsRefused se_X11_monthsRefused ini_X11 cd_X11_monthsRefused
theorem ml_X11_240 : Cond.methodLink RX11 240 yX11_remember ∈ tz := tz_in 1135 (by decide +kernel) (by decide +kernel)
theorem gv_X11_240 : GoodIn tz (wsV RX11 240 RX11 yX11_remember (wz yX11_remember cX11_remember 2 none)) := gdV ml_X11_240 im_X11_remember se_X11_remember ini_X11 cd_X11_remember
theorem ml_X11_243 : Cond.methodLink RX11 243 yX11_passes ∈ tz := tz_in 1139 (by decide +kernel) (by decide +kernel)
theorem gv_X11_243 : GoodIn tz (wsV RX11 243 RX11 yX11_passes (wz yX11_passes cX11_passes 3 none)) := gdV ml_X11_243 im_X11_passes se_X11_passes ini_X11 cd_X11_passes
theorem ml_X11_246 : Cond.methodLink RX11 246 yX11_ones ∈ tz := tz_in 1161 (by decide +kernel) (by decide +kernel)
theorem gv_X11_246 : GoodIn tz (va_wsS RX11 246 yX11_ones (wz yX11_ones cX11_ones 3 (some .int))) := gdS ml_X11_246 sm_X11_ones ini_X11 cd_X11_ones
theorem ml_X11_249 : Cond.methodLink RX11 249 yX11_free ∈ tz := tz_in 1157 (by decide +kernel) (by decide +kernel)
theorem gv_X11_249 : GoodIn tz (wsV RX11 249 RX11 yX11_free (wz yX11_free cX11_free 1 (some .int))) := gdV ml_X11_249 im_X11_free se_X11_free ini_X11 cd_X11_free
theorem ml_X11_255 : Cond.methodLink RX11 255 yX11_scrapes ∈ tz := tz_in 1173 (by decide +kernel) (by decide +kernel)
theorem gv_X11_255 : GoodIn tz (wsV RX11 255 RX11 yX11_scrapes (wz yX11_scrapes cX11_scrapes 4 none)) := gdV ml_X11_255 im_X11_scrapes se_X11_scrapes ini_X11 cd_X11_scrapes
theorem ml_X11_259 : Cond.methodLink RX11 259 yX11_wounds ∈ tz := tz_in 1182 (by decide +kernel) (by decide +kernel)
theorem gv_X11_259 : GoodIn tz (wsV RX11 259 RX11 yX11_wounds (wz yX11_wounds cX11_wounds 4 none)) := gdV ml_X11_259 im_X11_wounds se_X11_wounds ini_X11 cd_X11_wounds
theorem ml_X11_275 : Cond.methodLink RX11 275 yX11_draw ∈ tz := tz_in 1200 (by decide +kernel) (by decide +kernel)
theorem gv_X11_275 : GoodIn tz (wsV RX11 275 RX11 yX11_draw (wz yX11_draw cX11_draw 2 (some .int))) := gdV ml_X11_275 im_X11_draw se_X11_draw ini_X11 cd_X11_draw
theorem ml_X11_278 : Cond.methodLink RX11 278 yX11_chance ∈ tz := tz_in 1196 (by decide +kernel) (by decide +kernel)
theorem gv_X11_278 : GoodIn tz (wsV RX11 278 RX11 yX11_chance (wz yX11_chance cX11_chance 4 none)) := gdV ml_X11_278 im_X11_chance se_X11_chance ini_X11 cd_X11_chance
theorem ml_X11_283 : Cond.methodLink RX11 283 yX11_areSayings ∈ tz := tz_in 1225 (by decide +kernel) (by decide +kernel)
theorem gv_X11_283 : GoodIn tz (wsV RX11 283 RX11 yX11_areSayings (wz yX11_areSayings cX11_areSayings 2 (some .boolean))) := gdV ml_X11_283 im_X11_areSayings se_X11_areSayings ini_X11 cd_X11_areSayings
theorem ml_X11_288 : Cond.methodLink RX11 288 yX11_goThrough ∈ tz := tz_in 1238 (by decide +kernel) (by decide +kernel)
theorem gv_X11_288 : GoodIn tz (wsV RX11 288 RX11 yX11_goThrough (wz yX11_goThrough cX11_goThrough 9 (some .boolean))) := gdV ml_X11_288 im_X11_goThrough se_X11_goThrough ini_X11 cd_X11_goThrough
theorem ml_X11_297 : Cond.methodLink RX11 297 yX11_takesFirst ∈ tz := tz_in 1265 (by decide +kernel) (by decide +kernel)
theorem gv_X11_297 : GoodIn tz (wsV RX11 297 RX11 yX11_takesFirst (wz yX11_takesFirst cX11_takesFirst 3 none)) := gdV ml_X11_297 im_X11_takesFirst se_X11_takesFirst ini_X11 cd_X11_takesFirst
theorem ml_X11_300 : Cond.methodLink RX11 300 yX11_laysStays ∈ tz := tz_in 1261 (by decide +kernel) (by decide +kernel)
theorem gv_X11_300 : GoodIn tz (wsV RX11 300 RX11 yX11_laysStays (wz yX11_laysStays cX11_laysStays 5 (some .int))) := gdV ml_X11_300 im_X11_laysStays se_X11_laysStays ini_X11 cd_X11_laysStays
