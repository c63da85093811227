/-! The constructors: checks. By program (g97zv.py). -/
theorem zc_13 : zchk 3000 198 87 700 zk_13 zk_14 = true := by decide +kernel
theorem zc_14 : zchk 3000 198 87 700 zk_14 zk_15 = true := by decide +kernel
