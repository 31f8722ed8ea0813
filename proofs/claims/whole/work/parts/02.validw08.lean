theorem ix_vw16 : ix_v code ix_lw16 = true := by decide +kernel
theorem ix_vw17 : ix_v code ix_lw17 = true := by decide +kernel
