/-! SOUNDNESS, 2: every block is as the tables say -/
theorem ckl12 : chkL 236 Bk236_12 = true := by decide +kernel
theorem ckl13 : chkL 236 Bk236_13 = true := by decide +kernel
theorem ckl14 : chkL 236 Bk236_14 = true := by decide +kernel
theorem ckl15 : chkL 236 Bk236_15 = true := by decide +kernel
theorem ckl16 : chkL 236 Bk236_16 = true := by decide +kernel
theorem ckl17 : chkL 236 Bk236_17 = true := by decide +kernel
theorem ckl18 : chkL 236 Bk236_18 = true := by decide +kernel
theorem ckl19 : chkL 236 Bk236_19 = true := by decide +kernel
theorem ckl20 : chkL 236 Bk236_20 = true := by decide +kernel
theorem ckl21 : chkL 236 Bk236_21 = true := by decide +kernel
theorem ckl22 : chkL 236 Bk236_22 = true := by decide +kernel
theorem ckl23 : chkL 236 Bk236_23 = true := by decide +kernel
