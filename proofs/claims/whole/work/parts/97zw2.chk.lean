/-! The constructors: checks. By program (g97zv.py). -/
theorem zc_7 : zchk 3000 198 87 700 zk_7 zk_8 = true := by decide +kernel
theorem zc_8 : zchk 3000 198 87 700 zk_8 zk_9 = true := by decide +kernel
