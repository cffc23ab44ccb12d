set_option maxRecDepth 100000 in
theorem mx_ck_33 : (List.range' 268 4).all mx_ok = true := by decide +kernel
set_option maxRecDepth 100000 in
theorem mx_ck_34 : (List.range' 272 4).all mx_ok = true := by decide +kernel
set_option maxRecDepth 100000 in
theorem mx_ck_35 : (List.range' 276 4).all mx_ok = true := by decide +kernel
set_option maxRecDepth 100000 in
theorem mx_ck_36 : (List.range' 280 3).all mx_ok = true := by decide +kernel
set_option maxRecDepth 100000 in
theorem mx_ck_37 : (List.range' 283 8).all mx_ok = true := by decide +kernel
set_option maxRecDepth 100000 in
theorem mx_ck_38 : (List.range' 291 8).all mx_ok = true := by decide +kernel
set_option maxRecDepth 100000 in
theorem mx_ck_39 : (List.range' 299 7).all mx_ok = true := by decide +kernel
set_option maxRecDepth 100000 in
theorem mx_ck_40 : (List.range' 306 19).all mx_ok = true := by decide +kernel
set_option maxRecDepth 100000 in
theorem mx_ck_41 : (List.range' 325 20).all mx_ok = true := by decide +kernel
set_option maxRecDepth 100000 in
theorem mx_ck_42 : (List.range' 345 1).all mx_ok = true := by decide +kernel
