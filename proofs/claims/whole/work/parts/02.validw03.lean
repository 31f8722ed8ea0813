theorem ix_vw6 : ix_v code ix_lw6 = true := by decide +kernel
theorem ix_vw7 : ix_v code ix_lw7 = true := by decide +kernel
