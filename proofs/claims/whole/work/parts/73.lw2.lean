/-! ===== the law's table holds against its bytes ===== -/
set_option maxHeartbeats 4000000 in
theorem ck_law : q_chkM code 14 10 380 0 e_law.1 = true := by decide +kernel
