set_option maxRecDepth 100000 in
theorem mx_cl_0 : (List.range' 0 60).all (mx_ok1 346 (mxC 346)) = true := by decide +kernel
set_option maxRecDepth 100000 in
theorem mx_cl_1 : (List.range' 60 60).all (mx_ok1 346 (mxC 346)) = true := by decide +kernel
set_option maxRecDepth 100000 in
theorem mx_cl_2 : (List.range' 120 60).all (mx_ok1 346 (mxC 346)) = true := by decide +kernel
set_option maxRecDepth 100000 in
theorem mx_cl_3 : (List.range' 180 60).all (mx_ok1 346 (mxC 346)) = true := by decide +kernel
set_option maxRecDepth 100000 in
theorem mx_cl_4 : (List.range' 240 60).all (mx_ok1 346 (mxC 346)) = true := by decide +kernel
set_option maxRecDepth 100000 in
theorem mx_cl_5 : (List.range' 300 60).all (mx_ok1 346 (mxC 346)) = true := by decide +kernel
set_option maxRecDepth 100000 in
theorem mx_cl_6 : (List.range' 360 60).all (mx_ok1 346 (mxC 346)) = true := by decide +kernel
set_option maxRecDepth 100000 in
theorem mx_cl_7 : (List.range' 420 60).all (mx_ok1 346 (mxC 346)) = true := by decide +kernel
set_option maxRecDepth 100000 in
theorem mx_cl_8 : (List.range' 480 60).all (mx_ok1 346 (mxC 346)) = true := by decide +kernel
set_option maxRecDepth 100000 in
theorem mx_cl_9 : (List.range' 540 60).all (mx_ok1 346 (mxC 346)) = true := by decide +kernel
set_option maxRecDepth 100000 in
theorem mx_cl_10 : (List.range' 600 60).all (mx_ok1 346 (mxC 346)) = true := by decide +kernel
set_option maxRecDepth 100000 in
theorem mx_cl_11 : (List.range' 660 60).all (mx_ok1 346 (mxC 346)) = true := by decide +kernel
set_option maxRecDepth 100000 in
theorem mx_cl_12 : (List.range' 720 60).all (mx_ok1 346 (mxC 346)) = true := by decide +kernel
