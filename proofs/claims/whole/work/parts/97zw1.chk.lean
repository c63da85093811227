/-! The constructors: checks. By program (g97zv.py). -/
theorem zc_3 : zchk 3000 199 138 5 zk_3 zk_4 = true := by decide +kernel
theorem zc_4 : zchk 3000 199 138 5 zk_4 zk_5 = true := by decide +kernel
theorem zc_5 : zchk 3000 199 138 6 zk_5 zk_6 = true := by decide +kernel
