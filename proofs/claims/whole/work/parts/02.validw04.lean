theorem ix_vw8 : ix_v code ix_lw8 = true := by decide +kernel
theorem ix_vw9 : ix_v code ix_lw9 = true := by decide +kernel
