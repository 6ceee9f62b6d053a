/-! THE FIRST STATE's calls: more -/
section OB
variable {L : Nat} {xs : Nat → Int} {d : Nat} {v : Nat → Nat → Int} {a b c x y z : Int}
theorem td_pos {x : Int} (k : Int) (h : 0 ≤ x) : Int.tdiv x k = x / k := Int.tdiv_eq_ediv_of_nonneg h
theorem tm_pos {x : Int} (k : Int) (h : 0 ≤ x) : Int.tmod x k = x % k := Int.tmod_eq_emod_of_nonneg h
theorem cb_hasKind (a : Int) : qE L xs (d + 1) nX0_hasKind [(0, a)] (qS v) = some (some (0, zb (0 ≤ a ∧ a < 8)), qS v) := by
  simp only [e_X0_hasKind, b_X0_hasKind_0, b_X0_hasKind_4, b_X0_hasKind_12, b_X0_hasKind_16, b_X0_hasKind_17, qB_some, psh_some, psh_none, and_true, true_and, and_false, false_and, and_self, or_true, true_or, or_false, false_or, not_true_eq_false, not_false_eq_true, ↓reduceIte, Int.reduceEq, Int.reduceLT, Int.reduceLE, Int.reduceToNat, Nat.reduceEqDiff, Nat.reduceAdd]
  by_cases h1 : a < 0
  · rw [if_pos h1, zb_f (by omega)]
  · by_cases h2 : a < 8
    · rw [if_neg h1, if_pos h2, zb_t (by omega)]
    · rw [if_neg h1, if_neg h2, zb_f (by omega)]
theorem cb_has (a : Int) (h1 : v 49 2 ≤ 50) : qE L xs (d + 1) nX0_has [(2, 49), (0, a)] (qS v) = some (some (0, zb (0 ≤ a ∧ a < v 49 2)), qS v) := by
  simp only [e_X0_has, b_X0_has_0, b_X0_has_4, b_X0_has_12, b_X0_has_18, b_X0_has_22, b_X0_has_23, qB_some, psh_some, psh_none, and_true, true_and, and_false, false_and, and_self, or_true, true_or, or_false, false_or, not_true_eq_false, not_false_eq_true, ↓reduceIte, Int.reduceEq, Int.reduceLT, Int.reduceLE, Int.reduceToNat, Nat.reduceEqDiff, Nat.reduceAdd]
  by_cases h2 : a < 0
  · rw [if_pos h2, zb_f (by omega)]
  · by_cases h3 : a < v 49 2
    · rw [if_neg h2, if_pos h3, if_pos (by omega), zb_t (by omega)]
    · rw [if_neg h2, if_neg h3, zb_f (by omega)]
theorem mb_isBody (a : Int) (h0 : 0 ≤ v 63 39) (h1 : v 63 39 ≤ 50) : qE L xs (d + 2) nX12_isBody [(2, 63), (0, a)] (qS v) = some (some (0, zb (0 ≤ a ∧ a < v 63 39)), qS v) := by
  simp (disch := omega) only [e_X12_isBody, b_X12_isBody_0, b_X12_isBody_13, c_within, w32_id, zb_r, qB_some, psh_some, psh_none, and_true, true_and, and_false, false_and, and_self, or_true, true_or, or_false, false_or, not_true_eq_false, not_false_eq_true, ↓reduceIte, Int.reduceEq, Int.reduceLT, Int.reduceLE, Int.reduceToNat, Nat.reduceEqDiff, Nat.reduceAdd]
  exact ret_zb (by omega)
end OB
