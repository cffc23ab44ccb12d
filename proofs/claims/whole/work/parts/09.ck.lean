set_option maxRecDepth 100000 in
theorem mx_ck_0 : (List.range' 0 9).all mx_ok = true := by decide +kernel
set_option maxRecDepth 100000 in
theorem mx_ck_1 : (List.range' 9 7).all mx_ok = true := by decide +kernel
set_option maxRecDepth 100000 in
theorem mx_ck_2 : (List.range' 16 11).all mx_ok = true := by decide +kernel
set_option maxRecDepth 100000 in
theorem mx_ck_3 : (List.range' 27 8).all mx_ok = true := by decide +kernel
set_option maxRecDepth 100000 in
theorem mx_ck_4 : (List.range' 35 13).all mx_ok = true := by decide +kernel
set_option maxRecDepth 100000 in
theorem mx_ck_5 : (List.range' 48 16).all mx_ok = true := by decide +kernel
set_option maxRecDepth 100000 in
theorem mx_ck_6 : (List.range' 64 12).all mx_ok = true := by decide +kernel
set_option maxRecDepth 100000 in
theorem mx_ck_7 : (List.range' 76 14).all mx_ok = true := by decide +kernel
set_option maxRecDepth 100000 in
theorem mx_ck_8 : (List.range' 90 17).all mx_ok = true := by decide +kernel
set_option maxRecDepth 100000 in
theorem mx_ck_9 : (List.range' 107 11).all mx_ok = true := by decide +kernel
set_option maxRecDepth 100000 in
theorem mx_ck_10 : (List.range' 118 9).all mx_ok = true := by decide +kernel
set_option maxRecDepth 100000 in
theorem mx_ck_11 : (List.range' 127 11).all mx_ok = true := by decide +kernel
set_option maxRecDepth 100000 in
theorem mx_ck_12 : (List.range' 138 6).all mx_ok = true := by decide +kernel
set_option maxRecDepth 100000 in
theorem mx_ck_13 : (List.range' 144 12).all mx_ok = true := by decide +kernel
set_option maxRecDepth 100000 in
theorem mx_ck_14 : (List.range' 156 20).all mx_ok = true := by decide +kernel
set_option maxRecDepth 100000 in
theorem mx_ck_15 : (List.range' 176 26).all mx_ok = true := by decide +kernel
set_option maxRecDepth 100000 in
theorem mx_ck_16 : (List.range' 202 15).all mx_ok = true := by decide +kernel
set_option maxRecDepth 100000 in
theorem mx_ck_17 : (List.range' 217 7).all mx_ok = true := by decide +kernel
set_option maxRecDepth 100000 in
theorem mx_ck_18 : (List.range' 224 7).all mx_ok = true := by decide +kernel
set_option maxRecDepth 100000 in
theorem mx_ck_19 : (List.range' 231 6).all mx_ok = true := by decide +kernel
set_option maxRecDepth 100000 in
theorem mx_ck_20 : (List.range' 237 5).all mx_ok = true := by decide +kernel
set_option maxRecDepth 100000 in
theorem mx_ck_21 : (List.range' 242 8).all mx_ok = true := by decide +kernel
set_option maxRecDepth 100000 in
theorem mx_ck_22 : (List.range' 250 6).all mx_ok = true := by decide +kernel
set_option maxRecDepth 100000 in
theorem mx_ck_23 : (List.range' 256 8).all mx_ok = true := by decide +kernel
set_option maxRecDepth 100000 in
theorem mx_ck_24 : (List.range' 264 6).all mx_ok = true := by decide +kernel
set_option maxRecDepth 100000 in
theorem mx_ck_25 : (List.range' 270 5).all mx_ok = true := by decide +kernel
set_option maxRecDepth 100000 in
theorem mx_ck_26 : (List.range' 275 6).all mx_ok = true := by decide +kernel
set_option maxRecDepth 100000 in
theorem mx_ck_27 : (List.range' 281 9).all mx_ok = true := by decide +kernel
set_option maxRecDepth 100000 in
theorem mx_ck_28 : (List.range' 290 11).all mx_ok = true := by decide +kernel
set_option maxRecDepth 100000 in
theorem mx_ck_29 : (List.range' 301 18).all mx_ok = true := by decide +kernel
set_option maxRecDepth 100000 in
theorem mx_ck_30 : (List.range' 319 25).all mx_ok = true := by decide +kernel
set_option maxRecDepth 100000 in
theorem mx_ck_31 : (List.range' 344 4).all mx_ok = true := by decide +kernel
set_option maxRecDepth 100000 in
theorem mx_ck_32 : (List.range' 348 1).all mx_ok = true := by decide +kernel
theorem mx_ok_all : ∀ y, y < 349 → mx_ok y = true := by
  intro y hy
  by_cases h0 : y < 9
  · exact List.all_eq_true.mp mx_ck_0 y (List.mem_range'_1.mpr (by omega))
  by_cases h1 : y < 16
  · exact List.all_eq_true.mp mx_ck_1 y (List.mem_range'_1.mpr (by omega))
  by_cases h2 : y < 27
  · exact List.all_eq_true.mp mx_ck_2 y (List.mem_range'_1.mpr (by omega))
  by_cases h3 : y < 35
  · exact List.all_eq_true.mp mx_ck_3 y (List.mem_range'_1.mpr (by omega))
  by_cases h4 : y < 48
  · exact List.all_eq_true.mp mx_ck_4 y (List.mem_range'_1.mpr (by omega))
  by_cases h5 : y < 64
  · exact List.all_eq_true.mp mx_ck_5 y (List.mem_range'_1.mpr (by omega))
  by_cases h6 : y < 76
  · exact List.all_eq_true.mp mx_ck_6 y (List.mem_range'_1.mpr (by omega))
  by_cases h7 : y < 90
  · exact List.all_eq_true.mp mx_ck_7 y (List.mem_range'_1.mpr (by omega))
  by_cases h8 : y < 107
  · exact List.all_eq_true.mp mx_ck_8 y (List.mem_range'_1.mpr (by omega))
  by_cases h9 : y < 118
  · exact List.all_eq_true.mp mx_ck_9 y (List.mem_range'_1.mpr (by omega))
  by_cases h10 : y < 127
  · exact List.all_eq_true.mp mx_ck_10 y (List.mem_range'_1.mpr (by omega))
  by_cases h11 : y < 138
  · exact List.all_eq_true.mp mx_ck_11 y (List.mem_range'_1.mpr (by omega))
  by_cases h12 : y < 144
  · exact List.all_eq_true.mp mx_ck_12 y (List.mem_range'_1.mpr (by omega))
  by_cases h13 : y < 156
  · exact List.all_eq_true.mp mx_ck_13 y (List.mem_range'_1.mpr (by omega))
  by_cases h14 : y < 176
  · exact List.all_eq_true.mp mx_ck_14 y (List.mem_range'_1.mpr (by omega))
  by_cases h15 : y < 202
  · exact List.all_eq_true.mp mx_ck_15 y (List.mem_range'_1.mpr (by omega))
  by_cases h16 : y < 217
  · exact List.all_eq_true.mp mx_ck_16 y (List.mem_range'_1.mpr (by omega))
  by_cases h17 : y < 224
  · exact List.all_eq_true.mp mx_ck_17 y (List.mem_range'_1.mpr (by omega))
  by_cases h18 : y < 231
  · exact List.all_eq_true.mp mx_ck_18 y (List.mem_range'_1.mpr (by omega))
  by_cases h19 : y < 237
  · exact List.all_eq_true.mp mx_ck_19 y (List.mem_range'_1.mpr (by omega))
  by_cases h20 : y < 242
  · exact List.all_eq_true.mp mx_ck_20 y (List.mem_range'_1.mpr (by omega))
  by_cases h21 : y < 250
  · exact List.all_eq_true.mp mx_ck_21 y (List.mem_range'_1.mpr (by omega))
  by_cases h22 : y < 256
  · exact List.all_eq_true.mp mx_ck_22 y (List.mem_range'_1.mpr (by omega))
  by_cases h23 : y < 264
  · exact List.all_eq_true.mp mx_ck_23 y (List.mem_range'_1.mpr (by omega))
  by_cases h24 : y < 270
  · exact List.all_eq_true.mp mx_ck_24 y (List.mem_range'_1.mpr (by omega))
  by_cases h25 : y < 275
  · exact List.all_eq_true.mp mx_ck_25 y (List.mem_range'_1.mpr (by omega))
  by_cases h26 : y < 281
  · exact List.all_eq_true.mp mx_ck_26 y (List.mem_range'_1.mpr (by omega))
  by_cases h27 : y < 290
  · exact List.all_eq_true.mp mx_ck_27 y (List.mem_range'_1.mpr (by omega))
  by_cases h28 : y < 301
  · exact List.all_eq_true.mp mx_ck_28 y (List.mem_range'_1.mpr (by omega))
  by_cases h29 : y < 319
  · exact List.all_eq_true.mp mx_ck_29 y (List.mem_range'_1.mpr (by omega))
  by_cases h30 : y < 344
  · exact List.all_eq_true.mp mx_ck_30 y (List.mem_range'_1.mpr (by omega))
  by_cases h31 : y < 348
  · exact List.all_eq_true.mp mx_ck_31 y (List.mem_range'_1.mpr (by omega))
  by_cases h32 : y < 349
  · exact List.all_eq_true.mp mx_ck_32 y (List.mem_range'_1.mpr (by omega))
  omega
