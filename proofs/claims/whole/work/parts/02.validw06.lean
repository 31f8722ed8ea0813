theorem ix_vw12 : ix_v code ix_lw12 = true := by decide +kernel
theorem ix_vw13 : ix_v code ix_lw13 = true := by decide +kernel
