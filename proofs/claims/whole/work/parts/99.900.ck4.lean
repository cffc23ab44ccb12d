set_option maxRecDepth 100000 in
theorem mx_cq_0 : (List.range' 0 60).all (mx_ok1 346 (mxC 346)) = true := by decide +kernel
set_option maxRecDepth 100000 in
theorem mx_cq_1 : (List.range' 60 60).all (mx_ok1 346 (mxC 346)) = true := by decide +kernel
set_option maxRecDepth 100000 in
theorem mx_cq_2 : (List.range' 120 60).all (mx_ok1 346 (mxC 346)) = true := by decide +kernel
set_option maxRecDepth 100000 in
theorem mx_cq_3 : (List.range' 180 60).all (mx_ok1 346 (mxC 346)) = true := by decide +kernel
set_option maxRecDepth 100000 in
theorem mx_cq_4 : (List.range' 240 60).all (mx_ok1 346 (mxC 346)) = true := by decide +kernel
set_option maxRecDepth 100000 in
theorem mx_cq_5 : (List.range' 300 60).all (mx_ok1 346 (mxC 346)) = true := by decide +kernel
set_option maxRecDepth 100000 in
theorem mx_cq_6 : (List.range' 360 60).all (mx_ok1 346 (mxC 346)) = true := by decide +kernel
set_option maxRecDepth 100000 in
theorem mx_cq_7 : (List.range' 420 60).all (mx_ok1 346 (mxC 346)) = true := by decide +kernel
set_option maxRecDepth 100000 in
theorem mx_cq_8 : (List.range' 480 60).all (mx_ok1 346 (mxC 346)) = true := by decide +kernel
set_option maxRecDepth 100000 in
theorem mx_cq_9 : (List.range' 540 60).all (mx_ok1 346 (mxC 346)) = true := by decide +kernel
set_option maxRecDepth 100000 in
theorem mx_cq_10 : (List.range' 600 60).all (mx_ok1 346 (mxC 346)) = true := by decide +kernel
set_option maxRecDepth 100000 in
theorem mx_cq_11 : (List.range' 660 60).all (mx_ok1 346 (mxC 346)) = true := by decide +kernel
set_option maxRecDepth 100000 in
theorem mx_cq_12 : (List.range' 720 60).all (mx_ok1 346 (mxC 346)) = true := by decide +kernel
