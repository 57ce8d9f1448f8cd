set_option maxRecDepth 100000 in
theorem cx_t0 : cx_made.isSome = true := by decide +kernel
set_option maxRecDepth 100000 in
theorem cx_t1 : (cx_run 2000 20 3 (mj_kd 3) [(0, .inr (0, 0)), (1, .inl 5), (2, .inl 3)] [] [.inl (2, (cx_all (cx_dvs 2)).getD [])]).isSome = true := by decide +kernel
set_option maxRecDepth 100000 in
theorem cx_t2 : (cx_run 5000 20 19 (mj_kd 19) [(0, .inr (0, 0))] [] [.inl (1, (cx_all (cx_dvs 1)).getD [])]).isSome = true := by decide +kernel
set_option maxRecDepth 100000 in
theorem cx_t3 : (cx_run 5000 20 17 (mj_kd 17) [(0, .inr (0, 0))] [] [.inl (3, (cx_all (cx_dvs 3)).getD [])]).isSome = true := by decide +kernel
set_option maxRecDepth 100000 in
theorem cx_t4 : (cx_run 5000 20 18 (mj_kd 18) [(0, .inr (0, 0))] [] [.inl (4, (cx_all (cx_dvs 4)).getD [])]).isSome = true := by decide +kernel
set_option maxRecDepth 100000 in
theorem cx_t5 : (cx_run 15000 20 2 (mj_kd 2) [(0, .inr (0, 0))] [] [.inl (0, (cx_all (cx_dvs 0)).getD [])]).isSome = true := by decide +kernel
set_option maxRecDepth 100000 in
theorem cx_t6 : (cx_made2 []).isSome = true := by decide +kernel
