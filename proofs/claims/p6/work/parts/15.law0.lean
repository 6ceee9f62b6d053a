/-! THE LAW'S OWN TABLE CHECKED, in pieces: part 0 (written by wip/gen_tables.py) -/
theorem ow_0 : pm_chkE pm_lks RL "" ret code (pm_ents 0 CL_law_0) = true := by decide +kernel
theorem ow_1 : pm_chkE pm_lks RL "" ret code (pm_ents 32 CL_law_1) = true := by decide +kernel
theorem ow_2 : pm_chkE pm_lks RL "" ret code (pm_ents 64 CL_law_2) = true := by decide +kernel
theorem ow_3 : pm_chkE pm_lks RL "" ret code (pm_ents 96 CL_law_3) = true := by decide +kernel
theorem ow_4 : pm_chkE pm_lks RL "" ret code (pm_ents 128 CL_law_4) = true := by decide +kernel
theorem ow_5 : pm_chkE pm_lks RL "" ret code (pm_ents 160 CL_law_5) = true := by decide +kernel
theorem ow_6 : pm_chkE pm_lks RL "" ret code (pm_ents 192 CL_law_6) = true := by decide +kernel
theorem ow_7 : pm_chkE pm_lks RL "" ret code (pm_ents 224 CL_law_7) = true := by decide +kernel
theorem ow_8 : pm_chkE pm_lks RL "" ret code (pm_ents 256 CL_law_8) = true := by decide +kernel
theorem ow_9 : pm_chkE pm_lks RL "" ret code (pm_ents 288 CL_law_9) = true := by decide +kernel
theorem ow_10 : pm_chkE pm_lks RL "" ret code (pm_ents 320 CL_law_10) = true := by decide +kernel
theorem ow_11 : pm_chkE pm_lks RL "" ret code (pm_ents 352 CL_law_11) = true := by decide +kernel
theorem ow_12 : pm_chkE pm_lks RL "" ret code (pm_ents 384 CL_law_12) = true := by decide +kernel

