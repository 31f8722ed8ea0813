theorem ix_vw10 : ix_v code ix_lw10 = true := by decide +kernel
theorem ix_vw11 : ix_v code ix_lw11 = true := by decide +kernel
