/-! each instruction against the tables, by the kernel; ps: where its words stand -/
theorem ck_m145 : at_all mt_145 cd_145 [[], [], [475], [88, 477, 478], [], []] = true := by decide +kernel
theorem ck_m146 : at_all mt_146 cd_146 [[], [], [], [], [], [], [], [], [], []] = true := by decide +kernel
