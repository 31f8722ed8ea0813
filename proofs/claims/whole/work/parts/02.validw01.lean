theorem ix_vw2 : ix_v code ix_lw2 = true := by decide +kernel
theorem ix_vw3 : ix_v code ix_lw3 = true := by decide +kernel
