/-! SOUNDNESS, 2: every block is as the tables say -/
theorem ckl24 : chkL 236 Bk236_24 = true := by decide +kernel
theorem ckl25 : chkL 236 Bk236_25 = true := by decide +kernel
theorem ckl26 : chkL 236 Bk236_26 = true := by decide +kernel
theorem ckl27 : chkL 236 Bk236_27 = true := by decide +kernel
theorem ckl28 : chkL 236 Bk236_28 = true := by decide +kernel
theorem ckl29 : chkL 236 Bk236_29 = true := by decide +kernel
theorem ckl30 : chkL 236 Bk236_30 = true := by decide +kernel
theorem ckl31 : chkL 236 Bk236_31 = true := by decide +kernel
theorem ckl32 : chkL 236 Bk236_32 = true := by decide +kernel
theorem ckl33 : chkL 236 Bk236_33 = true := by decide +kernel
theorem ckl34 : chkL 236 Bk236_34 = true := by decide +kernel
