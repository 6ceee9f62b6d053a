/-! THE LAW'S OWN TABLE CHECKED, in pieces: part 3 (written by wip/gen_tables.py) -/
theorem ow_37 : pm_chkE pm_lks RL "" ret code (pm_ents 1184 CL_law_37) = true := by decide +kernel
theorem ow_38 : pm_chkE pm_lks RL "" ret code (pm_ents 1216 CL_law_38) = true := by decide +kernel
theorem ow_39 : pm_chkE pm_lks RL "" ret code (pm_ents 1248 CL_law_39) = true := by decide +kernel
theorem ow_40 : pm_chkE pm_lks RL "" ret code (pm_ents 1280 CL_law_40) = true := by decide +kernel
theorem ow_41 : pm_chkE pm_lks RL "" ret code (pm_ents 1312 CL_law_41) = true := by decide +kernel
theorem ow_42 : pm_chkE pm_lks RL "" ret code (pm_ents 1344 CL_law_42) = true := by decide +kernel
theorem ow_43 : pm_chkE pm_lks RL "" ret code (pm_ents 1376 CL_law_43) = true := by decide +kernel
theorem ow_44 : pm_chkE pm_lks RL "" ret code (pm_ents 1408 CL_law_44) = true := by decide +kernel
theorem ow_45 : pm_chkE pm_lks RL "" ret code (pm_ents 1440 CL_law_45) = true := by decide +kernel
theorem ow_46 : pm_chkE pm_lks RL "" ret code (pm_ents 1472 CL_law_46) = true := by decide +kernel
theorem ow_47 : pm_chkE pm_lks RL "" ret code (pm_ents 1504 CL_law_47) = true := by decide +kernel
theorem ow_48 : pm_chkE pm_lks RL "" ret code (pm_ents 1536 CL_law_48) = true := by decide +kernel
theorem ok_law : pm_okC pm_T RL "" ret code CL_law := pm_chkE_ok pm_lk_all (fun x hx => by
  unfold CL_law at hx
  rcases pm_ents_app hx with hx | hx
  · exact List.all_eq_true.mp ow_0 x hx
  rcases pm_ents_app hx with hx | hx
  · exact List.all_eq_true.mp ow_1 x hx
  rcases pm_ents_app hx with hx | hx
  · exact List.all_eq_true.mp ow_2 x hx
  rcases pm_ents_app hx with hx | hx
  · exact List.all_eq_true.mp ow_3 x hx
  rcases pm_ents_app hx with hx | hx
  · exact List.all_eq_true.mp ow_4 x hx
  rcases pm_ents_app hx with hx | hx
  · exact List.all_eq_true.mp ow_5 x hx
  rcases pm_ents_app hx with hx | hx
  · exact List.all_eq_true.mp ow_6 x hx
  rcases pm_ents_app hx with hx | hx
  · exact List.all_eq_true.mp ow_7 x hx
  rcases pm_ents_app hx with hx | hx
  · exact List.all_eq_true.mp ow_8 x hx
  rcases pm_ents_app hx with hx | hx
  · exact List.all_eq_true.mp ow_9 x hx
  rcases pm_ents_app hx with hx | hx
  · exact List.all_eq_true.mp ow_10 x hx
  rcases pm_ents_app hx with hx | hx
  · exact List.all_eq_true.mp ow_11 x hx
  rcases pm_ents_app hx with hx | hx
  · exact List.all_eq_true.mp ow_12 x hx
  rcases pm_ents_app hx with hx | hx
  · exact List.all_eq_true.mp ow_13 x hx
  rcases pm_ents_app hx with hx | hx
  · exact List.all_eq_true.mp ow_14 x hx
  rcases pm_ents_app hx with hx | hx
  · exact List.all_eq_true.mp ow_15 x hx
  rcases pm_ents_app hx with hx | hx
  · exact List.all_eq_true.mp ow_16 x hx
  rcases pm_ents_app hx with hx | hx
  · exact List.all_eq_true.mp ow_17 x hx
  rcases pm_ents_app hx with hx | hx
  · exact List.all_eq_true.mp ow_18 x hx
  rcases pm_ents_app hx with hx | hx
  · exact List.all_eq_true.mp ow_19 x hx
  rcases pm_ents_app hx with hx | hx
  · exact List.all_eq_true.mp ow_20 x hx
  rcases pm_ents_app hx with hx | hx
  · exact List.all_eq_true.mp ow_21 x hx
  rcases pm_ents_app hx with hx | hx
  · exact List.all_eq_true.mp ow_22 x hx
  rcases pm_ents_app hx with hx | hx
  · exact List.all_eq_true.mp ow_23 x hx
  rcases pm_ents_app hx with hx | hx
  · exact List.all_eq_true.mp ow_24 x hx
  rcases pm_ents_app hx with hx | hx
  · exact List.all_eq_true.mp ow_25 x hx
  rcases pm_ents_app hx with hx | hx
  · exact List.all_eq_true.mp ow_26 x hx
  rcases pm_ents_app hx with hx | hx
  · exact List.all_eq_true.mp ow_27 x hx
  rcases pm_ents_app hx with hx | hx
  · exact List.all_eq_true.mp ow_28 x hx
  rcases pm_ents_app hx with hx | hx
  · exact List.all_eq_true.mp ow_29 x hx
  rcases pm_ents_app hx with hx | hx
  · exact List.all_eq_true.mp ow_30 x hx
  rcases pm_ents_app hx with hx | hx
  · exact List.all_eq_true.mp ow_31 x hx
  rcases pm_ents_app hx with hx | hx
  · exact List.all_eq_true.mp ow_32 x hx
  rcases pm_ents_app hx with hx | hx
  · exact List.all_eq_true.mp ow_33 x hx
  rcases pm_ents_app hx with hx | hx
  · exact List.all_eq_true.mp ow_34 x hx
  rcases pm_ents_app hx with hx | hx
  · exact List.all_eq_true.mp ow_35 x hx
  rcases pm_ents_app hx with hx | hx
  · exact List.all_eq_true.mp ow_36 x hx
  rcases pm_ents_app hx with hx | hx
  · exact List.all_eq_true.mp ow_37 x hx
  rcases pm_ents_app hx with hx | hx
  · exact List.all_eq_true.mp ow_38 x hx
  rcases pm_ents_app hx with hx | hx
  · exact List.all_eq_true.mp ow_39 x hx
  rcases pm_ents_app hx with hx | hx
  · exact List.all_eq_true.mp ow_40 x hx
  rcases pm_ents_app hx with hx | hx
  · exact List.all_eq_true.mp ow_41 x hx
  rcases pm_ents_app hx with hx | hx
  · exact List.all_eq_true.mp ow_42 x hx
  rcases pm_ents_app hx with hx | hx
  · exact List.all_eq_true.mp ow_43 x hx
  rcases pm_ents_app hx with hx | hx
  · exact List.all_eq_true.mp ow_44 x hx
  rcases pm_ents_app hx with hx | hx
  · exact List.all_eq_true.mp ow_45 x hx
  rcases pm_ents_app hx with hx | hx
  · exact List.all_eq_true.mp ow_46 x hx
  rcases pm_ents_app hx with hx | hx
  · exact List.all_eq_true.mp ow_47 x hx
  exact List.all_eq_true.mp ow_48 x hx)

