/-! The constructors: checks. By program (g97zv.py). -/
theorem zc_11 : zchk 3000 198 87 700 zk_11 zk_12 = true := by decide +kernel
theorem zc_12 : zchk 3000 198 87 700 zk_12 zk_13 = true := by decide +kernel
