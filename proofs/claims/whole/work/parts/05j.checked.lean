/-! SOUNDNESS, 2: every block is as the tables say -/
theorem ckl35 : chkL 236 Bk236_35 = true := by decide +kernel
theorem ckl36 : chkL 236 Bk236_36 = true := by decide +kernel
theorem ckl37 : chkL 236 Bk236_37 = true := by decide +kernel
theorem ckl38 : chkL 236 Bk236_38 = true := by decide +kernel
theorem ckl39 : chkL 236 Bk236_39 = true := by decide +kernel
theorem ckl40 : chkL 236 Bk236_40 = true := by decide +kernel
theorem ckl41 : chkL 236 Bk236_41 = true := by decide +kernel
theorem ckl42 : chkL 236 Bk236_42 = true := by decide +kernel
theorem ckl43 : chkL 236 Bk236_43 = true := by decide +kernel
theorem ckl44 : chkL 236 Bk236_44 = true := by decide +kernel
theorem ckl45 : chkL 236 Bk236_45 = true := by decide +kernel
