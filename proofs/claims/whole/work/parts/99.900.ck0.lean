set_option maxRecDepth 100000 in
theorem mx_ck_0 : (List.range' 0 9).all mx_ok = true := by decide +kernel
set_option maxRecDepth 100000 in
theorem mx_ck_1 : (List.range' 9 5).all mx_ok = true := by decide +kernel
set_option maxRecDepth 100000 in
theorem mx_ck_2 : (List.range' 14 8).all mx_ok = true := by decide +kernel
set_option maxRecDepth 100000 in
theorem mx_ck_3 : (List.range' 22 5).all mx_ok = true := by decide +kernel
set_option maxRecDepth 100000 in
theorem mx_ck_4 : (List.range' 27 6).all mx_ok = true := by decide +kernel
set_option maxRecDepth 100000 in
theorem mx_ck_5 : (List.range' 33 7).all mx_ok = true := by decide +kernel
set_option maxRecDepth 100000 in
theorem mx_ck_6 : (List.range' 40 12).all mx_ok = true := by decide +kernel
set_option maxRecDepth 100000 in
theorem mx_ck_7 : (List.range' 52 11).all mx_ok = true := by decide +kernel
set_option maxRecDepth 100000 in
theorem mx_ck_8 : (List.range' 63 8).all mx_ok = true := by decide +kernel
set_option maxRecDepth 100000 in
theorem mx_ck_9 : (List.range' 71 11).all mx_ok = true := by decide +kernel
set_option maxRecDepth 100000 in
theorem mx_ck_10 : (List.range' 82 9).all mx_ok = true := by decide +kernel
