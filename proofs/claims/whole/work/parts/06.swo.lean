def mx_swo (n : Nat) (e : mxE) : Bool := match e.2.1 with
  | .tableswitch _ _ _ _ => decide (0 ≤ e.2.2.2.2.toInt ∧ e.2.2.2.2.toInt < 5000) && decide (e.2.2.2.1.length < 100) && e.2.2.2.1.all (fun t => decide (t < n))
  | .lookupswitch _ ps => decide (ps.toList.map (fun q => q.1) = [0, 1]) && decide (e.2.2.2.2 = 0) && decide (e.2.2.2.1.length = 3) && e.2.2.2.1.all (fun t => decide (t < n))
  | .goto _ => decide (e.2.2.2.1.headD 0 < n)
  | .ifCond _ _ => decide (e.2.2.2.1.headD 0 < n)
  | .if_icmp _ _ => decide (e.2.2.2.1.headD 0 < n)
  | .if_acmp _ _ => decide (e.2.2.2.1.headD 0 < n)
  | .ifnull _ => decide (e.2.2.2.1.headD 0 < n)
  | _ => true
set_option maxRecDepth 100000 in
theorem mx_csw_0 : (List.range' 0 9).all (fun y => (mxC y).all (mx_swo (mxC y).length)) = true := by decide +kernel
set_option maxRecDepth 100000 in
theorem mx_csw_1 : (List.range' 9 5).all (fun y => (mxC y).all (mx_swo (mxC y).length)) = true := by decide +kernel
set_option maxRecDepth 100000 in
theorem mx_csw_2 : (List.range' 14 8).all (fun y => (mxC y).all (mx_swo (mxC y).length)) = true := by decide +kernel
set_option maxRecDepth 100000 in
theorem mx_csw_3 : (List.range' 22 5).all (fun y => (mxC y).all (mx_swo (mxC y).length)) = true := by decide +kernel
set_option maxRecDepth 100000 in
theorem mx_csw_4 : (List.range' 27 6).all (fun y => (mxC y).all (mx_swo (mxC y).length)) = true := by decide +kernel
set_option maxRecDepth 100000 in
theorem mx_csw_5 : (List.range' 33 7).all (fun y => (mxC y).all (mx_swo (mxC y).length)) = true := by decide +kernel
set_option maxRecDepth 100000 in
theorem mx_csw_6 : (List.range' 40 12).all (fun y => (mxC y).all (mx_swo (mxC y).length)) = true := by decide +kernel
set_option maxRecDepth 100000 in
theorem mx_csw_7 : (List.range' 52 11).all (fun y => (mxC y).all (mx_swo (mxC y).length)) = true := by decide +kernel
set_option maxRecDepth 100000 in
theorem mx_csw_8 : (List.range' 63 8).all (fun y => (mxC y).all (mx_swo (mxC y).length)) = true := by decide +kernel
set_option maxRecDepth 100000 in
theorem mx_csw_9 : (List.range' 71 11).all (fun y => (mxC y).all (mx_swo (mxC y).length)) = true := by decide +kernel
set_option maxRecDepth 100000 in
theorem mx_csw_10 : (List.range' 82 9).all (fun y => (mxC y).all (mx_swo (mxC y).length)) = true := by decide +kernel
set_option maxRecDepth 100000 in
theorem mx_csw_11 : (List.range' 91 12).all (fun y => (mxC y).all (mx_swo (mxC y).length)) = true := by decide +kernel
set_option maxRecDepth 100000 in
theorem mx_csw_12 : (List.range' 103 9).all (fun y => (mxC y).all (mx_swo (mxC y).length)) = true := by decide +kernel
set_option maxRecDepth 100000 in
theorem mx_csw_13 : (List.range' 112 9).all (fun y => (mxC y).all (mx_swo (mxC y).length)) = true := by decide +kernel
set_option maxRecDepth 100000 in
theorem mx_csw_14 : (List.range' 121 6).all (fun y => (mxC y).all (mx_swo (mxC y).length)) = true := by decide +kernel
set_option maxRecDepth 100000 in
theorem mx_csw_15 : (List.range' 127 9).all (fun y => (mxC y).all (mx_swo (mxC y).length)) = true := by decide +kernel
set_option maxRecDepth 100000 in
theorem mx_csw_16 : (List.range' 136 7).all (fun y => (mxC y).all (mx_swo (mxC y).length)) = true := by decide +kernel
set_option maxRecDepth 100000 in
theorem mx_csw_17 : (List.range' 143 5).all (fun y => (mxC y).all (mx_swo (mxC y).length)) = true := by decide +kernel
set_option maxRecDepth 100000 in
theorem mx_csw_18 : (List.range' 148 17).all (fun y => (mxC y).all (mx_swo (mxC y).length)) = true := by decide +kernel
set_option maxRecDepth 100000 in
theorem mx_csw_19 : (List.range' 165 11).all (fun y => (mxC y).all (mx_swo (mxC y).length)) = true := by decide +kernel
set_option maxRecDepth 100000 in
theorem mx_csw_20 : (List.range' 176 17).all (fun y => (mxC y).all (mx_swo (mxC y).length)) = true := by decide +kernel
set_option maxRecDepth 100000 in
theorem mx_csw_21 : (List.range' 193 17).all (fun y => (mxC y).all (mx_swo (mxC y).length)) = true := by decide +kernel
set_option maxRecDepth 100000 in
theorem mx_csw_22 : (List.range' 210 8).all (fun y => (mxC y).all (mx_swo (mxC y).length)) = true := by decide +kernel
set_option maxRecDepth 100000 in
theorem mx_csw_23 : (List.range' 218 6).all (fun y => (mxC y).all (mx_swo (mxC y).length)) = true := by decide +kernel
set_option maxRecDepth 100000 in
theorem mx_csw_24 : (List.range' 224 6).all (fun y => (mxC y).all (mx_swo (mxC y).length)) = true := by decide +kernel
set_option maxRecDepth 100000 in
theorem mx_csw_25 : (List.range' 230 5).all (fun y => (mxC y).all (mx_swo (mxC y).length)) = true := by decide +kernel
set_option maxRecDepth 100000 in
theorem mx_csw_26 : (List.range' 235 5).all (fun y => (mxC y).all (mx_swo (mxC y).length)) = true := by decide +kernel
set_option maxRecDepth 100000 in
theorem mx_csw_27 : (List.range' 240 4).all (fun y => (mxC y).all (mx_swo (mxC y).length)) = true := by decide +kernel
set_option maxRecDepth 100000 in
theorem mx_csw_28 : (List.range' 244 5).all (fun y => (mxC y).all (mx_swo (mxC y).length)) = true := by decide +kernel
set_option maxRecDepth 100000 in
theorem mx_csw_29 : (List.range' 249 5).all (fun y => (mxC y).all (mx_swo (mxC y).length)) = true := by decide +kernel
set_option maxRecDepth 100000 in
theorem mx_csw_30 : (List.range' 254 3).all (fun y => (mxC y).all (mx_swo (mxC y).length)) = true := by decide +kernel
set_option maxRecDepth 100000 in
theorem mx_csw_31 : (List.range' 257 7).all (fun y => (mxC y).all (mx_swo (mxC y).length)) = true := by decide +kernel
set_option maxRecDepth 100000 in
theorem mx_csw_32 : (List.range' 264 4).all (fun y => (mxC y).all (mx_swo (mxC y).length)) = true := by decide +kernel
set_option maxRecDepth 100000 in
theorem mx_csw_33 : (List.range' 268 4).all (fun y => (mxC y).all (mx_swo (mxC y).length)) = true := by decide +kernel
set_option maxRecDepth 100000 in
theorem mx_csw_34 : (List.range' 272 4).all (fun y => (mxC y).all (mx_swo (mxC y).length)) = true := by decide +kernel
set_option maxRecDepth 100000 in
theorem mx_csw_35 : (List.range' 276 4).all (fun y => (mxC y).all (mx_swo (mxC y).length)) = true := by decide +kernel
set_option maxRecDepth 100000 in
theorem mx_csw_36 : (List.range' 280 3).all (fun y => (mxC y).all (mx_swo (mxC y).length)) = true := by decide +kernel
set_option maxRecDepth 100000 in
theorem mx_csw_37 : (List.range' 283 8).all (fun y => (mxC y).all (mx_swo (mxC y).length)) = true := by decide +kernel
set_option maxRecDepth 100000 in
theorem mx_csw_38 : (List.range' 291 8).all (fun y => (mxC y).all (mx_swo (mxC y).length)) = true := by decide +kernel
set_option maxRecDepth 100000 in
theorem mx_csw_39 : (List.range' 299 7).all (fun y => (mxC y).all (mx_swo (mxC y).length)) = true := by decide +kernel
set_option maxRecDepth 100000 in
theorem mx_csw_40 : (List.range' 306 19).all (fun y => (mxC y).all (mx_swo (mxC y).length)) = true := by decide +kernel
set_option maxRecDepth 100000 in
theorem mx_csw_41 : (List.range' 325 20).all (fun y => (mxC y).all (mx_swo (mxC y).length)) = true := by decide +kernel
set_option maxRecDepth 100000 in
theorem mx_csw_42 : (List.range' 345 1).all (fun y => (mxC y).all (mx_swo (mxC y).length)) = true := by decide +kernel
set_option maxRecDepth 100000 in
theorem mx_csw_l : (mxC 346).all (mx_swo (mxC 346).length) = true := by decide +kernel
theorem mx_swo_all : ∀ y, y < 347 → (mxC y).all (mx_swo (mxC y).length) = true := by
  intro y hy
  by_cases h0 : y < 9
  · exact List.all_eq_true.mp mx_csw_0 y (List.mem_range'_1.mpr (by omega))
  by_cases h1 : y < 14
  · exact List.all_eq_true.mp mx_csw_1 y (List.mem_range'_1.mpr (by omega))
  by_cases h2 : y < 22
  · exact List.all_eq_true.mp mx_csw_2 y (List.mem_range'_1.mpr (by omega))
  by_cases h3 : y < 27
  · exact List.all_eq_true.mp mx_csw_3 y (List.mem_range'_1.mpr (by omega))
  by_cases h4 : y < 33
  · exact List.all_eq_true.mp mx_csw_4 y (List.mem_range'_1.mpr (by omega))
  by_cases h5 : y < 40
  · exact List.all_eq_true.mp mx_csw_5 y (List.mem_range'_1.mpr (by omega))
  by_cases h6 : y < 52
  · exact List.all_eq_true.mp mx_csw_6 y (List.mem_range'_1.mpr (by omega))
  by_cases h7 : y < 63
  · exact List.all_eq_true.mp mx_csw_7 y (List.mem_range'_1.mpr (by omega))
  by_cases h8 : y < 71
  · exact List.all_eq_true.mp mx_csw_8 y (List.mem_range'_1.mpr (by omega))
  by_cases h9 : y < 82
  · exact List.all_eq_true.mp mx_csw_9 y (List.mem_range'_1.mpr (by omega))
  by_cases h10 : y < 91
  · exact List.all_eq_true.mp mx_csw_10 y (List.mem_range'_1.mpr (by omega))
  by_cases h11 : y < 103
  · exact List.all_eq_true.mp mx_csw_11 y (List.mem_range'_1.mpr (by omega))
  by_cases h12 : y < 112
  · exact List.all_eq_true.mp mx_csw_12 y (List.mem_range'_1.mpr (by omega))
  by_cases h13 : y < 121
  · exact List.all_eq_true.mp mx_csw_13 y (List.mem_range'_1.mpr (by omega))
  by_cases h14 : y < 127
  · exact List.all_eq_true.mp mx_csw_14 y (List.mem_range'_1.mpr (by omega))
  by_cases h15 : y < 136
  · exact List.all_eq_true.mp mx_csw_15 y (List.mem_range'_1.mpr (by omega))
  by_cases h16 : y < 143
  · exact List.all_eq_true.mp mx_csw_16 y (List.mem_range'_1.mpr (by omega))
  by_cases h17 : y < 148
  · exact List.all_eq_true.mp mx_csw_17 y (List.mem_range'_1.mpr (by omega))
  by_cases h18 : y < 165
  · exact List.all_eq_true.mp mx_csw_18 y (List.mem_range'_1.mpr (by omega))
  by_cases h19 : y < 176
  · exact List.all_eq_true.mp mx_csw_19 y (List.mem_range'_1.mpr (by omega))
  by_cases h20 : y < 193
  · exact List.all_eq_true.mp mx_csw_20 y (List.mem_range'_1.mpr (by omega))
  by_cases h21 : y < 210
  · exact List.all_eq_true.mp mx_csw_21 y (List.mem_range'_1.mpr (by omega))
  by_cases h22 : y < 218
  · exact List.all_eq_true.mp mx_csw_22 y (List.mem_range'_1.mpr (by omega))
  by_cases h23 : y < 224
  · exact List.all_eq_true.mp mx_csw_23 y (List.mem_range'_1.mpr (by omega))
  by_cases h24 : y < 230
  · exact List.all_eq_true.mp mx_csw_24 y (List.mem_range'_1.mpr (by omega))
  by_cases h25 : y < 235
  · exact List.all_eq_true.mp mx_csw_25 y (List.mem_range'_1.mpr (by omega))
  by_cases h26 : y < 240
  · exact List.all_eq_true.mp mx_csw_26 y (List.mem_range'_1.mpr (by omega))
  by_cases h27 : y < 244
  · exact List.all_eq_true.mp mx_csw_27 y (List.mem_range'_1.mpr (by omega))
  by_cases h28 : y < 249
  · exact List.all_eq_true.mp mx_csw_28 y (List.mem_range'_1.mpr (by omega))
  by_cases h29 : y < 254
  · exact List.all_eq_true.mp mx_csw_29 y (List.mem_range'_1.mpr (by omega))
  by_cases h30 : y < 257
  · exact List.all_eq_true.mp mx_csw_30 y (List.mem_range'_1.mpr (by omega))
  by_cases h31 : y < 264
  · exact List.all_eq_true.mp mx_csw_31 y (List.mem_range'_1.mpr (by omega))
  by_cases h32 : y < 268
  · exact List.all_eq_true.mp mx_csw_32 y (List.mem_range'_1.mpr (by omega))
  by_cases h33 : y < 272
  · exact List.all_eq_true.mp mx_csw_33 y (List.mem_range'_1.mpr (by omega))
  by_cases h34 : y < 276
  · exact List.all_eq_true.mp mx_csw_34 y (List.mem_range'_1.mpr (by omega))
  by_cases h35 : y < 280
  · exact List.all_eq_true.mp mx_csw_35 y (List.mem_range'_1.mpr (by omega))
  by_cases h36 : y < 283
  · exact List.all_eq_true.mp mx_csw_36 y (List.mem_range'_1.mpr (by omega))
  by_cases h37 : y < 291
  · exact List.all_eq_true.mp mx_csw_37 y (List.mem_range'_1.mpr (by omega))
  by_cases h38 : y < 299
  · exact List.all_eq_true.mp mx_csw_38 y (List.mem_range'_1.mpr (by omega))
  by_cases h39 : y < 306
  · exact List.all_eq_true.mp mx_csw_39 y (List.mem_range'_1.mpr (by omega))
  by_cases h40 : y < 325
  · exact List.all_eq_true.mp mx_csw_40 y (List.mem_range'_1.mpr (by omega))
  by_cases h41 : y < 345
  · exact List.all_eq_true.mp mx_csw_41 y (List.mem_range'_1.mpr (by omega))
  by_cases h42 : y < 346
  · exact List.all_eq_true.mp mx_csw_42 y (List.mem_range'_1.mpr (by omega))
  have : y = 346 := by omega
  rw [this]; exact mx_csw_l
