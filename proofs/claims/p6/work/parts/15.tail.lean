/-! EVERY METHOD OF THE TABLE IS SOUND (written by wip/gen_tables.py) -/
theorem pm_T_all : ∀ M ∈ pm_T, pm_okC pm_T M.1.cls M.1.name M.2.2.2.1 M.2.1 M.2.2.2.2 := fun M h => ((fa_app oka_0 (fa_app oka_1 (fa_app oka_2 (fa_app oka_3 (fa_app oka_4 (fa_app oka_5 (fa_app oka_6 (oka_7)))))))) : ∀ M ∈ pm_T_0 ++ (pm_T_1 ++ (pm_T_2 ++ (pm_T_3 ++ (pm_T_4 ++ (pm_T_5 ++ (pm_T_6 ++ (pm_T_7))))))), pm_okC pm_T M.1.cls M.1.name M.2.2.2.1 M.2.1 M.2.2.2.2) M (Eq.mp (congrArg (fun l => M ∈ l) pm_T_cut) h)
theorem pm_T_ok : pm_okT pm_T := fun y M h => pm_T_all M (pm_get_mem h)

