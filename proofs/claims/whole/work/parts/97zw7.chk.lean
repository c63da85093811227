/-! The constructors: checks. By program (g97zv.py). -/
theorem zc_18 : zchk 3000 199 138 9 zk_18 zk_19 = true := by decide +kernel
theorem zc_19 : zchk 3000 199 138 7 zk_19 zk_20 = true := by decide +kernel
theorem zc_20 : zchk 3000 199 138 11 zk_20 zk_21 = true := by decide +kernel
theorem zc_21 : zchk 3000 199 138 11 zk_21 zk_22 = true := by decide +kernel
theorem zc_22 : zchk 3000 199 138 7 zk_22 zk_23 = true := by decide +kernel
theorem zc_23 : zchk 3000 199 138 4 zk_23 zk_24 = true := by decide +kernel
