theorem ix_vw0 : ix_v code ix_lw0 = true := by decide +kernel
theorem ix_vw1 : ix_v code ix_lw1 = true := by decide +kernel
