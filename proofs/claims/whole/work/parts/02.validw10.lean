theorem ix_vw20 : ix_v code ix_lw20 = true := by decide +kernel
theorem ix_vw21 : ix_v code ix_lw21 = true := by decide +kernel
