theorem ev_xc0 : (vx_atS "MendBench" 102 "java/lang/IllegalArgumentException" ev_names).all ev_xinB = true := by decide +kernel
theorem ev_xc1 : (vx_atS "MendBench" 113 "java/lang/IllegalStateException" ev_names).all ev_xinB = true := by decide +kernel
theorem ev_xc2 : (vx_atS "MendBench" 164 "java/lang/IndexOutOfBoundsException" ev_names).all ev_xinB = true := by decide +kernel
