theorem ix_vw18 : ix_v code ix_lw18 = true := by decide +kernel
theorem ix_vw19 : ix_v code ix_lw19 = true := by decide +kernel
