/-! The constructors: checks. By program (g97zv.py). -/
theorem zc_9 : zchk 3000 198 87 700 zk_9 zk_10 = true := by decide +kernel
theorem zc_10 : zchk 3000 198 87 700 zk_10 zk_11 = true := by decide +kernel
