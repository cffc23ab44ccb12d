set_option maxRecDepth 100000 in
theorem mx_cq_13 : (List.range' 780 60).all (mx_ok1 346 (mxC 346)) = true := by decide +kernel
set_option maxRecDepth 100000 in
theorem mx_cq_14 : (List.range' 840 60).all (mx_ok1 346 (mxC 346)) = true := by decide +kernel
set_option maxRecDepth 100000 in
theorem mx_cq_15 : (List.range' 900 60).all (mx_ok1 346 (mxC 346)) = true := by decide +kernel
set_option maxRecDepth 100000 in
theorem mx_cq_16 : (List.range' 960 60).all (mx_ok1 346 (mxC 346)) = true := by decide +kernel
set_option maxRecDepth 100000 in
theorem mx_cq_17 : (List.range' 1020 60).all (mx_ok1 346 (mxC 346)) = true := by decide +kernel
set_option maxRecDepth 100000 in
theorem mx_cq_18 : (List.range' 1080 60).all (mx_ok1 346 (mxC 346)) = true := by decide +kernel
set_option maxRecDepth 100000 in
theorem mx_cq_19 : (List.range' 1140 60).all (mx_ok1 346 (mxC 346)) = true := by decide +kernel
set_option maxRecDepth 100000 in
theorem mx_cq_20 : (List.range' 1200 60).all (mx_ok1 346 (mxC 346)) = true := by decide +kernel
set_option maxRecDepth 100000 in
theorem mx_cq_21 : (List.range' 1260 60).all (mx_ok1 346 (mxC 346)) = true := by decide +kernel
set_option maxRecDepth 100000 in
theorem mx_cq_22 : (List.range' 1320 60).all (mx_ok1 346 (mxC 346)) = true := by decide +kernel
set_option maxRecDepth 100000 in
theorem mx_cq_23 : (List.range' 1380 60).all (mx_ok1 346 (mxC 346)) = true := by decide +kernel
set_option maxRecDepth 100000 in
theorem mx_cq_24 : (List.range' 1440 60).all (mx_ok1 346 (mxC 346)) = true := by decide +kernel
set_option maxRecDepth 100000 in
theorem mx_cq_25 : (List.range' 1500 60).all (mx_ok1 346 (mxC 346)) = true := by decide +kernel
set_option maxRecDepth 100000 in
theorem mx_cq_26 : (List.range' 1560 9).all (mx_ok1 346 (mxC 346)) = true := by decide +kernel
