set_option maxRecDepth 100000 in
theorem mx_cq_len : (mxC 346).length = 1569 := by decide +kernel
set_option maxRecDepth 100000 in
theorem mx_cq_0k : mx_ok0 346 = true := by decide +kernel
theorem mx_ok_law : mx_ok 346 = true := by
  unfold mx_ok
  rw [Bool.and_eq_true, mx_cq_len, List.all_eq_true]
  refine ⟨mx_cq_0k, fun i hi => ?_⟩
  have hi := List.mem_range.mp hi
  by_cases h0 : i < 60
  · exact List.all_eq_true.mp mx_cq_0 i (List.mem_range'_1.mpr (by omega))
  by_cases h1 : i < 120
  · exact List.all_eq_true.mp mx_cq_1 i (List.mem_range'_1.mpr (by omega))
  by_cases h2 : i < 180
  · exact List.all_eq_true.mp mx_cq_2 i (List.mem_range'_1.mpr (by omega))
  by_cases h3 : i < 240
  · exact List.all_eq_true.mp mx_cq_3 i (List.mem_range'_1.mpr (by omega))
  by_cases h4 : i < 300
  · exact List.all_eq_true.mp mx_cq_4 i (List.mem_range'_1.mpr (by omega))
  by_cases h5 : i < 360
  · exact List.all_eq_true.mp mx_cq_5 i (List.mem_range'_1.mpr (by omega))
  by_cases h6 : i < 420
  · exact List.all_eq_true.mp mx_cq_6 i (List.mem_range'_1.mpr (by omega))
  by_cases h7 : i < 480
  · exact List.all_eq_true.mp mx_cq_7 i (List.mem_range'_1.mpr (by omega))
  by_cases h8 : i < 540
  · exact List.all_eq_true.mp mx_cq_8 i (List.mem_range'_1.mpr (by omega))
  by_cases h9 : i < 600
  · exact List.all_eq_true.mp mx_cq_9 i (List.mem_range'_1.mpr (by omega))
  by_cases h10 : i < 660
  · exact List.all_eq_true.mp mx_cq_10 i (List.mem_range'_1.mpr (by omega))
  by_cases h11 : i < 720
  · exact List.all_eq_true.mp mx_cq_11 i (List.mem_range'_1.mpr (by omega))
  by_cases h12 : i < 780
  · exact List.all_eq_true.mp mx_cq_12 i (List.mem_range'_1.mpr (by omega))
  by_cases h13 : i < 840
  · exact List.all_eq_true.mp mx_cq_13 i (List.mem_range'_1.mpr (by omega))
  by_cases h14 : i < 900
  · exact List.all_eq_true.mp mx_cq_14 i (List.mem_range'_1.mpr (by omega))
  by_cases h15 : i < 960
  · exact List.all_eq_true.mp mx_cq_15 i (List.mem_range'_1.mpr (by omega))
  by_cases h16 : i < 1020
  · exact List.all_eq_true.mp mx_cq_16 i (List.mem_range'_1.mpr (by omega))
  by_cases h17 : i < 1080
  · exact List.all_eq_true.mp mx_cq_17 i (List.mem_range'_1.mpr (by omega))
  by_cases h18 : i < 1140
  · exact List.all_eq_true.mp mx_cq_18 i (List.mem_range'_1.mpr (by omega))
  by_cases h19 : i < 1200
  · exact List.all_eq_true.mp mx_cq_19 i (List.mem_range'_1.mpr (by omega))
  by_cases h20 : i < 1260
  · exact List.all_eq_true.mp mx_cq_20 i (List.mem_range'_1.mpr (by omega))
  by_cases h21 : i < 1320
  · exact List.all_eq_true.mp mx_cq_21 i (List.mem_range'_1.mpr (by omega))
  by_cases h22 : i < 1380
  · exact List.all_eq_true.mp mx_cq_22 i (List.mem_range'_1.mpr (by omega))
  by_cases h23 : i < 1440
  · exact List.all_eq_true.mp mx_cq_23 i (List.mem_range'_1.mpr (by omega))
  by_cases h24 : i < 1500
  · exact List.all_eq_true.mp mx_cq_24 i (List.mem_range'_1.mpr (by omega))
  by_cases h25 : i < 1560
  · exact List.all_eq_true.mp mx_cq_25 i (List.mem_range'_1.mpr (by omega))
  by_cases h26 : i < 1569
  · exact List.all_eq_true.mp mx_cq_26 i (List.mem_range'_1.mpr (by omega))
  omega
theorem mx_ok_all : ∀ y, y < 347 → mx_ok y = true := by
  intro y hy
  by_cases h0 : y < 9
  · exact List.all_eq_true.mp mx_ck_0 y (List.mem_range'_1.mpr (by omega))
  by_cases h1 : y < 14
  · exact List.all_eq_true.mp mx_ck_1 y (List.mem_range'_1.mpr (by omega))
  by_cases h2 : y < 22
  · exact List.all_eq_true.mp mx_ck_2 y (List.mem_range'_1.mpr (by omega))
  by_cases h3 : y < 27
  · exact List.all_eq_true.mp mx_ck_3 y (List.mem_range'_1.mpr (by omega))
  by_cases h4 : y < 33
  · exact List.all_eq_true.mp mx_ck_4 y (List.mem_range'_1.mpr (by omega))
  by_cases h5 : y < 40
  · exact List.all_eq_true.mp mx_ck_5 y (List.mem_range'_1.mpr (by omega))
  by_cases h6 : y < 52
  · exact List.all_eq_true.mp mx_ck_6 y (List.mem_range'_1.mpr (by omega))
  by_cases h7 : y < 63
  · exact List.all_eq_true.mp mx_ck_7 y (List.mem_range'_1.mpr (by omega))
  by_cases h8 : y < 71
  · exact List.all_eq_true.mp mx_ck_8 y (List.mem_range'_1.mpr (by omega))
  by_cases h9 : y < 82
  · exact List.all_eq_true.mp mx_ck_9 y (List.mem_range'_1.mpr (by omega))
  by_cases h10 : y < 91
  · exact List.all_eq_true.mp mx_ck_10 y (List.mem_range'_1.mpr (by omega))
  by_cases h11 : y < 103
  · exact List.all_eq_true.mp mx_ck_11 y (List.mem_range'_1.mpr (by omega))
  by_cases h12 : y < 112
  · exact List.all_eq_true.mp mx_ck_12 y (List.mem_range'_1.mpr (by omega))
  by_cases h13 : y < 121
  · exact List.all_eq_true.mp mx_ck_13 y (List.mem_range'_1.mpr (by omega))
  by_cases h14 : y < 127
  · exact List.all_eq_true.mp mx_ck_14 y (List.mem_range'_1.mpr (by omega))
  by_cases h15 : y < 136
  · exact List.all_eq_true.mp mx_ck_15 y (List.mem_range'_1.mpr (by omega))
  by_cases h16 : y < 143
  · exact List.all_eq_true.mp mx_ck_16 y (List.mem_range'_1.mpr (by omega))
  by_cases h17 : y < 148
  · exact List.all_eq_true.mp mx_ck_17 y (List.mem_range'_1.mpr (by omega))
  by_cases h18 : y < 165
  · exact List.all_eq_true.mp mx_ck_18 y (List.mem_range'_1.mpr (by omega))
  by_cases h19 : y < 176
  · exact List.all_eq_true.mp mx_ck_19 y (List.mem_range'_1.mpr (by omega))
  by_cases h20 : y < 193
  · exact List.all_eq_true.mp mx_ck_20 y (List.mem_range'_1.mpr (by omega))
  by_cases h21 : y < 210
  · exact List.all_eq_true.mp mx_ck_21 y (List.mem_range'_1.mpr (by omega))
  by_cases h22 : y < 218
  · exact List.all_eq_true.mp mx_ck_22 y (List.mem_range'_1.mpr (by omega))
  by_cases h23 : y < 224
  · exact List.all_eq_true.mp mx_ck_23 y (List.mem_range'_1.mpr (by omega))
  by_cases h24 : y < 230
  · exact List.all_eq_true.mp mx_ck_24 y (List.mem_range'_1.mpr (by omega))
  by_cases h25 : y < 235
  · exact List.all_eq_true.mp mx_ck_25 y (List.mem_range'_1.mpr (by omega))
  by_cases h26 : y < 240
  · exact List.all_eq_true.mp mx_ck_26 y (List.mem_range'_1.mpr (by omega))
  by_cases h27 : y < 244
  · exact List.all_eq_true.mp mx_ck_27 y (List.mem_range'_1.mpr (by omega))
  by_cases h28 : y < 249
  · exact List.all_eq_true.mp mx_ck_28 y (List.mem_range'_1.mpr (by omega))
  by_cases h29 : y < 254
  · exact List.all_eq_true.mp mx_ck_29 y (List.mem_range'_1.mpr (by omega))
  by_cases h30 : y < 257
  · exact List.all_eq_true.mp mx_ck_30 y (List.mem_range'_1.mpr (by omega))
  by_cases h31 : y < 264
  · exact List.all_eq_true.mp mx_ck_31 y (List.mem_range'_1.mpr (by omega))
  by_cases h32 : y < 268
  · exact List.all_eq_true.mp mx_ck_32 y (List.mem_range'_1.mpr (by omega))
  by_cases h33 : y < 272
  · exact List.all_eq_true.mp mx_ck_33 y (List.mem_range'_1.mpr (by omega))
  by_cases h34 : y < 276
  · exact List.all_eq_true.mp mx_ck_34 y (List.mem_range'_1.mpr (by omega))
  by_cases h35 : y < 280
  · exact List.all_eq_true.mp mx_ck_35 y (List.mem_range'_1.mpr (by omega))
  by_cases h36 : y < 283
  · exact List.all_eq_true.mp mx_ck_36 y (List.mem_range'_1.mpr (by omega))
  by_cases h37 : y < 291
  · exact List.all_eq_true.mp mx_ck_37 y (List.mem_range'_1.mpr (by omega))
  by_cases h38 : y < 299
  · exact List.all_eq_true.mp mx_ck_38 y (List.mem_range'_1.mpr (by omega))
  by_cases h39 : y < 306
  · exact List.all_eq_true.mp mx_ck_39 y (List.mem_range'_1.mpr (by omega))
  by_cases h40 : y < 325
  · exact List.all_eq_true.mp mx_ck_40 y (List.mem_range'_1.mpr (by omega))
  by_cases h41 : y < 345
  · exact List.all_eq_true.mp mx_ck_41 y (List.mem_range'_1.mpr (by omega))
  by_cases h42 : y < 346
  · exact List.all_eq_true.mp mx_ck_42 y (List.mem_range'_1.mpr (by omega))
  have : y = 346 := by omega
  rw [this]; exact mx_ok_law
