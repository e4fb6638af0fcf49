/-! THE RUN OF SYMBOLS, its first words 6 to 7 -/
set_option maxRecDepth 100000 in
theorem trun_1 : xall1 (xtop 6 7) = true := by decide +kernel
