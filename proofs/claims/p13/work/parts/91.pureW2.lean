/-! the law's loop, over any script: as it is owed -/
theorem pure_ok : lw_pure := pureW_ok
