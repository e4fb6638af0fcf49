/-! THE RUN OF SYMBOLS, its first words 8 to 15 -/
set_option maxRecDepth 100000 in
theorem trun_2 : xall1 (xtop 8 15) = true := by decide +kernel
