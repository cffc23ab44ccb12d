set_option maxRecDepth 100000 in
theorem mx_ck_22 : (List.range' 210 8).all mx_ok = true := by decide +kernel
set_option maxRecDepth 100000 in
theorem mx_ck_23 : (List.range' 218 6).all mx_ok = true := by decide +kernel
set_option maxRecDepth 100000 in
theorem mx_ck_24 : (List.range' 224 6).all mx_ok = true := by decide +kernel
set_option maxRecDepth 100000 in
theorem mx_ck_25 : (List.range' 230 5).all mx_ok = true := by decide +kernel
set_option maxRecDepth 100000 in
theorem mx_ck_26 : (List.range' 235 5).all mx_ok = true := by decide +kernel
set_option maxRecDepth 100000 in
theorem mx_ck_27 : (List.range' 240 4).all mx_ok = true := by decide +kernel
set_option maxRecDepth 100000 in
theorem mx_ck_28 : (List.range' 244 5).all mx_ok = true := by decide +kernel
set_option maxRecDepth 100000 in
theorem mx_ck_29 : (List.range' 249 5).all mx_ok = true := by decide +kernel
set_option maxRecDepth 100000 in
theorem mx_ck_30 : (List.range' 254 3).all mx_ok = true := by decide +kernel
set_option maxRecDepth 100000 in
theorem mx_ck_31 : (List.range' 257 7).all mx_ok = true := by decide +kernel
set_option maxRecDepth 100000 in
theorem mx_ck_32 : (List.range' 264 4).all mx_ok = true := by decide +kernel
