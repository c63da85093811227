/-! The constructors: checks. By program (g97zv.py). -/
theorem zc_15 : zchk 3000 198 87 700 zk_15 zk_16 = true := by decide +kernel
theorem zc_16 : zchk 3000 198 87 407 zk_16 zk_17 = true := by decide +kernel
