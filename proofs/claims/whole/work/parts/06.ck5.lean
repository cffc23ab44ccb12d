set_option maxRecDepth 100000 in
theorem mx_cl_13 : (List.range' 780 60).all (mx_ok1 346 (mxC 346)) = true := by decide +kernel
set_option maxRecDepth 100000 in
theorem mx_cl_14 : (List.range' 840 60).all (mx_ok1 346 (mxC 346)) = true := by decide +kernel
set_option maxRecDepth 100000 in
theorem mx_cl_15 : (List.range' 900 60).all (mx_ok1 346 (mxC 346)) = true := by decide +kernel
set_option maxRecDepth 100000 in
theorem mx_cl_16 : (List.range' 960 60).all (mx_ok1 346 (mxC 346)) = true := by decide +kernel
set_option maxRecDepth 100000 in
theorem mx_cl_17 : (List.range' 1020 60).all (mx_ok1 346 (mxC 346)) = true := by decide +kernel
set_option maxRecDepth 100000 in
theorem mx_cl_18 : (List.range' 1080 60).all (mx_ok1 346 (mxC 346)) = true := by decide +kernel
set_option maxRecDepth 100000 in
theorem mx_cl_19 : (List.range' 1140 60).all (mx_ok1 346 (mxC 346)) = true := by decide +kernel
set_option maxRecDepth 100000 in
theorem mx_cl_20 : (List.range' 1200 60).all (mx_ok1 346 (mxC 346)) = true := by decide +kernel
set_option maxRecDepth 100000 in
theorem mx_cl_21 : (List.range' 1260 60).all (mx_ok1 346 (mxC 346)) = true := by decide +kernel
set_option maxRecDepth 100000 in
theorem mx_cl_22 : (List.range' 1320 60).all (mx_ok1 346 (mxC 346)) = true := by decide +kernel
set_option maxRecDepth 100000 in
theorem mx_cl_23 : (List.range' 1380 60).all (mx_ok1 346 (mxC 346)) = true := by decide +kernel
set_option maxRecDepth 100000 in
theorem mx_cl_24 : (List.range' 1440 60).all (mx_ok1 346 (mxC 346)) = true := by decide +kernel
set_option maxRecDepth 100000 in
theorem mx_cl_25 : (List.range' 1500 60).all (mx_ok1 346 (mxC 346)) = true := by decide +kernel
set_option maxRecDepth 100000 in
theorem mx_cl_26 : (List.range' 1560 9).all (mx_ok1 346 (mxC 346)) = true := by decide +kernel
