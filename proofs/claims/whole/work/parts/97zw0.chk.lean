/-! The constructors: checks. By program (g97zv.py). -/
theorem zc_0 : zchk 3000 200 0 2 zk_0 zk_1 = true := by decide +kernel
theorem zc_2 : zchk 3000 199 138 6 zk_2 zk_3 = true := by decide +kernel
