set_option maxRecDepth 100000 in
theorem mx_ck_11 : (List.range' 91 12).all mx_ok = true := by decide +kernel
set_option maxRecDepth 100000 in
theorem mx_ck_12 : (List.range' 103 9).all mx_ok = true := by decide +kernel
set_option maxRecDepth 100000 in
theorem mx_ck_13 : (List.range' 112 9).all mx_ok = true := by decide +kernel
set_option maxRecDepth 100000 in
theorem mx_ck_14 : (List.range' 121 6).all mx_ok = true := by decide +kernel
set_option maxRecDepth 100000 in
theorem mx_ck_15 : (List.range' 127 9).all mx_ok = true := by decide +kernel
set_option maxRecDepth 100000 in
theorem mx_ck_16 : (List.range' 136 7).all mx_ok = true := by decide +kernel
set_option maxRecDepth 100000 in
theorem mx_ck_17 : (List.range' 143 5).all mx_ok = true := by decide +kernel
set_option maxRecDepth 100000 in
theorem mx_ck_18 : (List.range' 148 17).all mx_ok = true := by decide +kernel
set_option maxRecDepth 100000 in
theorem mx_ck_19 : (List.range' 165 11).all mx_ok = true := by decide +kernel
set_option maxRecDepth 100000 in
theorem mx_ck_20 : (List.range' 176 17).all mx_ok = true := by decide +kernel
set_option maxRecDepth 100000 in
theorem mx_ck_21 : (List.range' 193 17).all mx_ok = true := by decide +kernel
