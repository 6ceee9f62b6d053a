/-! THE FIRST STATE's calls: meeting, taxes -/
section TX
variable {L : Nat} {xs : Nat → Int} {d : Nat} {v : Nat → Nat → Int} {a b c x y z : Int}
theorem m_warmOf (h1 : 0 ≤ y) (h2 : y < 30) : qE L xs (d + 1) nX12_warmOf [(2, 63), (0, y)] (qS v) = some (some (0, v 64 (30 + y).toNat), qS v) := by
  simp (disch := omega) only [e_X12_warmOf, b_X12_warmOf_0, b_X12_warmOf_9, w32_id, if_pos, qB_some, psh_some, psh_none, and_true, true_and, and_false, false_and, and_self, or_true, true_or, or_false, false_or, not_true_eq_false, not_false_eq_true, ↓reduceIte, Int.reduceEq, Int.reduceLT, Int.reduceLE, Int.reduceToNat, Nat.reduceEqDiff, Nat.reduceAdd]
theorem m_thickOf (h1 : 0 ≤ y) (h2 : y < 30) : qE L xs (d + 1) nX12_thickOf [(2, 63), (0, y)] (qS v) = some (some (0, v 64 y.toNat), qS v) := by
  simp (disch := omega) only [e_X12_thickOf, b_X12_thickOf_0, b_X12_thickOf_6, w32_id, if_pos, qB_some, psh_some, psh_none, and_true, true_and, and_false, false_and, and_self, or_true, true_or, or_false, false_or, not_true_eq_false, not_false_eq_true, ↓reduceIte, Int.reduceEq, Int.reduceLT, Int.reduceLE, Int.reduceToNat, Nat.reduceEqDiff, Nat.reduceAdd]
end TX
