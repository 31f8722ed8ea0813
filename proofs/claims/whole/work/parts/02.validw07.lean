theorem ix_vw14 : ix_v code ix_lw14 = true := by decide +kernel
theorem ix_vw15 : ix_v code ix_lw15 = true := by decide +kernel
