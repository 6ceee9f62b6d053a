/-! EQUATIONS, class X3 (written by wip/gen_blocks.py) -/
section QB
variable {L : Nat} {xs : Nat → Int} {d : Nat} {v : Nat → Nat → Int}
theorem e_X3_become_47_48 (σ : pm_S) : qE L xs (d + 1) nX3_become [(2, 47), (2, 48)] σ = qG L xs d CX3_become 0 [(2, 47), (2, 48)] [] σ := rfl
theorem b_X3_become_47_48_0 : qG L xs d CX3_become 0 [(2, 47), (2, 48)] [] (qS v) = qG L xs d CX3_become 8 [(2, 47), (2, 48)] [] (qS (pm_up v 47 0 (v 48 0))) := (qG_stk 4 _ _ _ _).trans (qG_mm (mm_up rfl))
theorem b_X3_become_47_48_8 : qG L xs d CX3_become 8 [(2, 47), (2, 48)] [] (qS v) = qG L xs d CX3_become 16 [(2, 47), (2, 48)] [] (qS (pm_up v 47 1 (v 48 1))) := (qG_stk 4 _ _ _ _).trans (qG_mm (mm_up rfl))
theorem b_X3_become_47_48_16 : qG L xs d CX3_become 16 [(2, 47), (2, 48)] [] (qS v) = qG L xs d CX3_become 24 [(2, 47), (2, 48)] [] (qS (pm_up v 47 2 (v 48 2))) := (qG_stk 4 _ _ _ _).trans (qG_mm (mm_up rfl))
theorem b_X3_become_47_48_24 : qG L xs d CX3_become 24 [(2, 47), (2, 48)] [] (qS v) = qG L xs d CX3_become 32 [(2, 47), (2, 48)] [] (qS (pm_up v 47 3 (v 48 3))) := (qG_stk 4 _ _ _ _).trans (qG_mm (mm_up rfl))
theorem b_X3_become_47_48_32 : qG L xs d CX3_become 32 [(2, 47), (2, 48)] [] (qS v) = some (none, qS v) := qG_stk 1 _ _ _ _
theorem e_X3_become_48_47 (σ : pm_S) : qE L xs (d + 1) nX3_become [(2, 48), (2, 47)] σ = qG L xs d CX3_become 0 [(2, 48), (2, 47)] [] σ := rfl
theorem b_X3_become_48_47_0 : qG L xs d CX3_become 0 [(2, 48), (2, 47)] [] (qS v) = qG L xs d CX3_become 8 [(2, 48), (2, 47)] [] (qS (pm_up v 48 0 (v 47 0))) := (qG_stk 4 _ _ _ _).trans (qG_mm (mm_up rfl))
theorem b_X3_become_48_47_8 : qG L xs d CX3_become 8 [(2, 48), (2, 47)] [] (qS v) = qG L xs d CX3_become 16 [(2, 48), (2, 47)] [] (qS (pm_up v 48 1 (v 47 1))) := (qG_stk 4 _ _ _ _).trans (qG_mm (mm_up rfl))
theorem b_X3_become_48_47_16 : qG L xs d CX3_become 16 [(2, 48), (2, 47)] [] (qS v) = qG L xs d CX3_become 24 [(2, 48), (2, 47)] [] (qS (pm_up v 48 2 (v 47 2))) := (qG_stk 4 _ _ _ _).trans (qG_mm (mm_up rfl))
theorem b_X3_become_48_47_24 : qG L xs d CX3_become 24 [(2, 48), (2, 47)] [] (qS v) = qG L xs d CX3_become 32 [(2, 48), (2, 47)] [] (qS (pm_up v 48 3 (v 47 3))) := (qG_stk 4 _ _ _ _).trans (qG_mm (mm_up rfl))
theorem b_X3_become_48_47_32 : qG L xs d CX3_become 32 [(2, 48), (2, 47)] [] (qS v) = some (none, qS v) := qG_stk 1 _ _ _ _
end QB
