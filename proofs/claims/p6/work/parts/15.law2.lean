/-! THE LAW'S OWN TABLE CHECKED, in pieces: part 2 (written by wip/gen_tables.py) -/
theorem ow_25 : pm_chkE pm_lks RL "" ret code (pm_ents 800 CL_law_25) = true := by decide +kernel
theorem ow_26 : pm_chkE pm_lks RL "" ret code (pm_ents 832 CL_law_26) = true := by decide +kernel
theorem ow_27 : pm_chkE pm_lks RL "" ret code (pm_ents 864 CL_law_27) = true := by decide +kernel
theorem ow_28 : pm_chkE pm_lks RL "" ret code (pm_ents 896 CL_law_28) = true := by decide +kernel
theorem ow_29 : pm_chkE pm_lks RL "" ret code (pm_ents 928 CL_law_29) = true := by decide +kernel
theorem ow_30 : pm_chkE pm_lks RL "" ret code (pm_ents 960 CL_law_30) = true := by decide +kernel
theorem ow_31 : pm_chkE pm_lks RL "" ret code (pm_ents 992 CL_law_31) = true := by decide +kernel
theorem ow_32 : pm_chkE pm_lks RL "" ret code (pm_ents 1024 CL_law_32) = true := by decide +kernel
theorem ow_33 : pm_chkE pm_lks RL "" ret code (pm_ents 1056 CL_law_33) = true := by decide +kernel
theorem ow_34 : pm_chkE pm_lks RL "" ret code (pm_ents 1088 CL_law_34) = true := by decide +kernel
theorem ow_35 : pm_chkE pm_lks RL "" ret code (pm_ents 1120 CL_law_35) = true := by decide +kernel
theorem ow_36 : pm_chkE pm_lks RL "" ret code (pm_ents 1152 CL_law_36) = true := by decide +kernel

