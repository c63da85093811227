/-! The constructors: checks. By program (g97zv.py). -/
theorem zc_25 : zchk 3000 200 0 3 zk_25 zk_26 = true := by decide +kernel
theorem zc_26 : zchk 3000 200 0 1 zk_26 zk_27 = true := by decide +kernel
theorem zc_27 : zchk 3000 200 0 3 zk_27 zk_28 = true := by decide +kernel
