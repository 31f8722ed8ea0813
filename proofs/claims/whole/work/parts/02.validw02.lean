theorem ix_vw4 : ix_v code ix_lw4 = true := by decide +kernel
theorem ix_vw5 : ix_v code ix_lw5 = true := by decide +kernel
