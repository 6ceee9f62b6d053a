/-! THE FIRST STATE's calls, the easy ones: both answer alike -/
section OA
variable {L : Nat} {xs : Nat → Int} {d : Nat} {v : Nat → Nat → Int} {a b c x y z : Int}
theorem cs_has (a : Int) : qE L xs (d + 1) nX8_has [(0, a)] (qS v) = some (some (0, zb (0 ≤ a ∧ a < 6)), qS v) := by
  simp only [e_X8_has, b_X8_has_0, b_X8_has_4, b_X8_has_10, b_X8_has_14, b_X8_has_15, qB_some, psh_some, psh_none, and_true, true_and, and_false, false_and, and_self, or_true, true_or, or_false, false_or, not_true_eq_false, not_false_eq_true, ↓reduceIte, Int.reduceEq, Int.reduceLT, Int.reduceLE, Int.reduceToNat, Nat.reduceEqDiff, Nat.reduceAdd]
  by_cases h1 : a < 0
  · rw [if_pos h1, zb_f (by omega)]
  · by_cases h2 : a < 6
    · rw [if_neg h1, if_pos h2, zb_t (by omega)]
    · rw [if_neg h1, if_neg h2, zb_f (by omega)]
theorem ms_isShelf (a : Int) : qE L xs (d + 2) nX12_isShelf [(0, a)] (qS v) = some (some (0, zb (0 ≤ a ∧ a < 6)), qS v) := by
  simp only [e_X12_isShelf, b_X12_isShelf_0, b_X12_isShelf_9, c_within, zb_r, qB_some, psh_some, psh_none, and_true, true_and, and_false, false_and, and_self, or_true, true_or, or_false, false_or, not_true_eq_false, not_false_eq_true, ↓reduceIte, Int.reduceEq, Int.reduceLT, Int.reduceLE, Int.reduceToNat, Nat.reduceEqDiff, Nat.reduceAdd]
  exact ret_zb (by omega)
end OA
