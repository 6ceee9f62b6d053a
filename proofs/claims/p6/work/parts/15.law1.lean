/-! THE LAW'S OWN TABLE CHECKED, in pieces: part 1 (written by wip/gen_tables.py) -/
theorem ow_13 : pm_chkE pm_lks RL "" ret code (pm_ents 416 CL_law_13) = true := by decide +kernel
theorem ow_14 : pm_chkE pm_lks RL "" ret code (pm_ents 448 CL_law_14) = true := by decide +kernel
theorem ow_15 : pm_chkE pm_lks RL "" ret code (pm_ents 480 CL_law_15) = true := by decide +kernel
theorem ow_16 : pm_chkE pm_lks RL "" ret code (pm_ents 512 CL_law_16) = true := by decide +kernel
theorem ow_17 : pm_chkE pm_lks RL "" ret code (pm_ents 544 CL_law_17) = true := by decide +kernel
theorem ow_18 : pm_chkE pm_lks RL "" ret code (pm_ents 576 CL_law_18) = true := by decide +kernel
theorem ow_19 : pm_chkE pm_lks RL "" ret code (pm_ents 608 CL_law_19) = true := by decide +kernel
theorem ow_20 : pm_chkE pm_lks RL "" ret code (pm_ents 640 CL_law_20) = true := by decide +kernel
theorem ow_21 : pm_chkE pm_lks RL "" ret code (pm_ents 672 CL_law_21) = true := by decide +kernel
theorem ow_22 : pm_chkE pm_lks RL "" ret code (pm_ents 704 CL_law_22) = true := by decide +kernel
theorem ow_23 : pm_chkE pm_lks RL "" ret code (pm_ents 736 CL_law_23) = true := by decide +kernel
theorem ow_24 : pm_chkE pm_lks RL "" ret code (pm_ents 768 CL_law_24) = true := by decide +kernel

