/-! SOUNDNESS, 2: every block is as the tables say -/
theorem ckl0 : chkL 236 Bk236_0 = true := by decide +kernel
theorem ckl1 : chkL 236 Bk236_1 = true := by decide +kernel
theorem ckl2 : chkL 236 Bk236_2 = true := by decide +kernel
theorem ckl3 : chkL 236 Bk236_3 = true := by decide +kernel
theorem ckl4 : chkL 236 Bk236_4 = true := by decide +kernel
theorem ckl5 : chkL 236 Bk236_5 = true := by decide +kernel
theorem ckl6 : chkL 236 Bk236_6 = true := by decide +kernel
theorem ckl7 : chkL 236 Bk236_7 = true := by decide +kernel
theorem ckl8 : chkL 236 Bk236_8 = true := by decide +kernel
theorem ckl9 : chkL 236 Bk236_9 = true := by decide +kernel
theorem ckl10 : chkL 236 Bk236_10 = true := by decide +kernel
theorem ckl11 : chkL 236 Bk236_11 = true := by decide +kernel
