/-! THE FIRST STATE's calls: numbers told and changed (written by wip/p1/29.opse.py) -/
section OE
variable {L : Nat} {xs : Nat → Int} {d : Nat} {v : Nat → Nat → Int} {a b c x y z : Int}
theorem hm_0 : hm v 0 = 30 := rfl
theorem hm_1 : hm v 1 = 30 := rfl
theorem hm_10 : hm v 10 = 1 := rfl
theorem hm_fr {w : Nat → Nat → Int} (h : w 1 = v 1) (a : Int) : hm w a = hm v a := by
  unfold hm
  rw [h]
theorem c_allows_0 (z : Int) : qE L xs (d + 1) nX9_allows [(0, 0), (0, z)] (qS v) = some (some (0, zb (1 ≤ z ∧ z ≤ 9)), qS v) := by
  simp only [e_X9_allows, b_X9_allows_0, b_X9_allows_4, b_X9_allows_12, b_X9_allows_18, b_X9_allows_21, b_X9_allows_27, b_X9_allows_30, b_X9_allows_34, b_X9_allows_35, show pm_lof [1, 0, -1, 0, 1, 0, 1, 0, 2, 1, 0, 0] 0 = 1 from rfl, show pm_lof [9, 99, 5, 1, 9, 1, 9, 99, 30, 30, 9, 99] 0 = 9 from rfl, qB_some, psh_some, psh_none, and_true, true_and, and_false, false_and, and_self, or_true, true_or, or_false, false_or, not_true_eq_false, not_false_eq_true, ↓reduceIte, Int.reduceEq, Int.reduceLT, Int.reduceLE, Int.reduceToNat, Nat.reduceEqDiff, Nat.reduceAdd]
  by_cases h1 : z < 1
  · rw [if_pos h1, zb_f (by omega)]
  · by_cases h2 : 9 < z
    · rw [if_neg h1, if_pos h2, zb_f (by omega)]
    · rw [if_neg h1, if_neg h2, zb_t (by omega)]
theorem m_may_0 (z : Int) : qE L xs (d + 2) nX12_mayBecome [(0, 0), (1, z)] (qS v) = some (some (0, zb (1 ≤ z ∧ z ≤ 9)), qS v) := by
  simp (disch := omega) only [e_X12_mayBecome, b_X12_mayBecome_0_v0, b_X12_mayBecome_0_v1, b_X12_mayBecome_0_v2, b_X12_mayBecome_0_v3, b_X12_mayBecome_0_v4, b_X12_mayBecome_0_v5, b_X12_mayBecome_0_v6, b_X12_mayBecome_0_v7, b_X12_mayBecome_0_v8, b_X12_mayBecome_0_v9, b_X12_mayBecome_0_v10, b_X12_mayBecome_0_o, b_X12_mayBecome_60, b_X12_mayBecome_68, b_X12_mayBecome_69, b_X12_mayBecome_79, b_X12_mayBecome_80, b_X12_mayBecome_86, b_X12_mayBecome_87, b_X12_mayBecome_97, b_X12_mayBecome_98, b_X12_mayBecome_106, b_X12_mayBecome_107, b_X12_mayBecome_115, b_X12_mayBecome_116, b_X12_mayBecome_124, c_within, zb_r, qB_some, psh_some, psh_none, and_true, true_and, and_false, false_and, and_self, or_true, true_or, or_false, false_or, not_true_eq_false, not_false_eq_true, ↓reduceIte, Int.reduceEq, Int.reduceLT, Int.reduceLE, Int.reduceToNat, Nat.reduceEqDiff, Nat.reduceAdd]
theorem c_allows_1 (z : Int) : qE L xs (d + 1) nX9_allows [(0, 1), (0, z)] (qS v) = some (some (0, zb (0 ≤ z ∧ z ≤ 99)), qS v) := by
  simp only [e_X9_allows, b_X9_allows_0, b_X9_allows_4, b_X9_allows_12, b_X9_allows_18, b_X9_allows_21, b_X9_allows_27, b_X9_allows_30, b_X9_allows_34, b_X9_allows_35, show pm_lof [1, 0, -1, 0, 1, 0, 1, 0, 2, 1, 0, 0] 1 = 0 from rfl, show pm_lof [9, 99, 5, 1, 9, 1, 9, 99, 30, 30, 9, 99] 1 = 99 from rfl, qB_some, psh_some, psh_none, and_true, true_and, and_false, false_and, and_self, or_true, true_or, or_false, false_or, not_true_eq_false, not_false_eq_true, ↓reduceIte, Int.reduceEq, Int.reduceLT, Int.reduceLE, Int.reduceToNat, Nat.reduceEqDiff, Nat.reduceAdd]
  by_cases h1 : z < 0
  · rw [if_pos h1, zb_f (by omega)]
  · by_cases h2 : 99 < z
    · rw [if_neg h1, if_pos h2, zb_f (by omega)]
    · rw [if_neg h1, if_neg h2, zb_t (by omega)]
theorem m_may_1 (z : Int) : qE L xs (d + 2) nX12_mayBecome [(0, 1), (1, z)] (qS v) = some (some (0, zb (0 ≤ z ∧ z ≤ 99)), qS v) := by
  simp (disch := omega) only [e_X12_mayBecome, b_X12_mayBecome_0_v0, b_X12_mayBecome_0_v1, b_X12_mayBecome_0_v2, b_X12_mayBecome_0_v3, b_X12_mayBecome_0_v4, b_X12_mayBecome_0_v5, b_X12_mayBecome_0_v6, b_X12_mayBecome_0_v7, b_X12_mayBecome_0_v8, b_X12_mayBecome_0_v9, b_X12_mayBecome_0_v10, b_X12_mayBecome_0_o, b_X12_mayBecome_60, b_X12_mayBecome_68, b_X12_mayBecome_69, b_X12_mayBecome_79, b_X12_mayBecome_80, b_X12_mayBecome_86, b_X12_mayBecome_87, b_X12_mayBecome_97, b_X12_mayBecome_98, b_X12_mayBecome_106, b_X12_mayBecome_107, b_X12_mayBecome_115, b_X12_mayBecome_116, b_X12_mayBecome_124, c_within, zb_r, qB_some, psh_some, psh_none, and_true, true_and, and_false, false_and, and_self, or_true, true_or, or_false, false_or, not_true_eq_false, not_false_eq_true, ↓reduceIte, Int.reduceEq, Int.reduceLT, Int.reduceLE, Int.reduceToNat, Nat.reduceEqDiff, Nat.reduceAdd]
theorem c_allows_2 (z : Int) : qE L xs (d + 1) nX9_allows [(0, 2), (0, z)] (qS v) = some (some (0, zb ((-1) ≤ z ∧ z ≤ 5)), qS v) := by
  simp only [e_X9_allows, b_X9_allows_0, b_X9_allows_4, b_X9_allows_12, b_X9_allows_18, b_X9_allows_21, b_X9_allows_27, b_X9_allows_30, b_X9_allows_34, b_X9_allows_35, show pm_lof [1, 0, -1, 0, 1, 0, 1, 0, 2, 1, 0, 0] 2 = (-1) from rfl, show pm_lof [9, 99, 5, 1, 9, 1, 9, 99, 30, 30, 9, 99] 2 = 5 from rfl, qB_some, psh_some, psh_none, and_true, true_and, and_false, false_and, and_self, or_true, true_or, or_false, false_or, not_true_eq_false, not_false_eq_true, ↓reduceIte, Int.reduceEq, Int.reduceLT, Int.reduceLE, Int.reduceToNat, Nat.reduceEqDiff, Nat.reduceAdd]
  by_cases h1 : z < (-1)
  · rw [if_pos h1, zb_f (by omega)]
  · by_cases h2 : 5 < z
    · rw [if_neg h1, if_pos h2, zb_f (by omega)]
    · rw [if_neg h1, if_neg h2, zb_t (by omega)]
theorem m_may_2 (z : Int) : qE L xs (d + 2) nX12_mayBecome [(0, 2), (1, z)] (qS v) = some (some (0, zb ((-1) ≤ z ∧ z ≤ 5)), qS v) := by
  simp (disch := omega) only [e_X12_mayBecome, b_X12_mayBecome_0_v0, b_X12_mayBecome_0_v1, b_X12_mayBecome_0_v2, b_X12_mayBecome_0_v3, b_X12_mayBecome_0_v4, b_X12_mayBecome_0_v5, b_X12_mayBecome_0_v6, b_X12_mayBecome_0_v7, b_X12_mayBecome_0_v8, b_X12_mayBecome_0_v9, b_X12_mayBecome_0_v10, b_X12_mayBecome_0_o, b_X12_mayBecome_60, b_X12_mayBecome_68, b_X12_mayBecome_69, b_X12_mayBecome_79, b_X12_mayBecome_80, b_X12_mayBecome_86, b_X12_mayBecome_87, b_X12_mayBecome_97, b_X12_mayBecome_98, b_X12_mayBecome_106, b_X12_mayBecome_107, b_X12_mayBecome_115, b_X12_mayBecome_116, b_X12_mayBecome_124, c_within, zb_r, qB_some, psh_some, psh_none, and_true, true_and, and_false, false_and, and_self, or_true, true_or, or_false, false_or, not_true_eq_false, not_false_eq_true, ↓reduceIte, Int.reduceEq, Int.reduceLT, Int.reduceLE, Int.reduceToNat, Nat.reduceEqDiff, Nat.reduceAdd]
theorem c_allows_3 (z : Int) : qE L xs (d + 1) nX9_allows [(0, 3), (0, z)] (qS v) = some (some (0, zb (0 ≤ z ∧ z ≤ 1)), qS v) := by
  simp only [e_X9_allows, b_X9_allows_0, b_X9_allows_4, b_X9_allows_12, b_X9_allows_18, b_X9_allows_21, b_X9_allows_27, b_X9_allows_30, b_X9_allows_34, b_X9_allows_35, show pm_lof [1, 0, -1, 0, 1, 0, 1, 0, 2, 1, 0, 0] 3 = 0 from rfl, show pm_lof [9, 99, 5, 1, 9, 1, 9, 99, 30, 30, 9, 99] 3 = 1 from rfl, qB_some, psh_some, psh_none, and_true, true_and, and_false, false_and, and_self, or_true, true_or, or_false, false_or, not_true_eq_false, not_false_eq_true, ↓reduceIte, Int.reduceEq, Int.reduceLT, Int.reduceLE, Int.reduceToNat, Nat.reduceEqDiff, Nat.reduceAdd]
  by_cases h1 : z < 0
  · rw [if_pos h1, zb_f (by omega)]
  · by_cases h2 : 1 < z
    · rw [if_neg h1, if_pos h2, zb_f (by omega)]
    · rw [if_neg h1, if_neg h2, zb_t (by omega)]
theorem m_may_3 (z : Int) : qE L xs (d + 2) nX12_mayBecome [(0, 3), (1, z)] (qS v) = some (some (0, zb (0 ≤ z ∧ z ≤ 1)), qS v) := by
  simp (disch := omega) only [e_X12_mayBecome, b_X12_mayBecome_0_v0, b_X12_mayBecome_0_v1, b_X12_mayBecome_0_v2, b_X12_mayBecome_0_v3, b_X12_mayBecome_0_v4, b_X12_mayBecome_0_v5, b_X12_mayBecome_0_v6, b_X12_mayBecome_0_v7, b_X12_mayBecome_0_v8, b_X12_mayBecome_0_v9, b_X12_mayBecome_0_v10, b_X12_mayBecome_0_o, b_X12_mayBecome_60, b_X12_mayBecome_68, b_X12_mayBecome_69, b_X12_mayBecome_79, b_X12_mayBecome_80, b_X12_mayBecome_86, b_X12_mayBecome_87, b_X12_mayBecome_97, b_X12_mayBecome_98, b_X12_mayBecome_106, b_X12_mayBecome_107, b_X12_mayBecome_115, b_X12_mayBecome_116, b_X12_mayBecome_124, c_within, zb_r, qB_some, psh_some, psh_none, and_true, true_and, and_false, false_and, and_self, or_true, true_or, or_false, false_or, not_true_eq_false, not_false_eq_true, ↓reduceIte, Int.reduceEq, Int.reduceLT, Int.reduceLE, Int.reduceToNat, Nat.reduceEqDiff, Nat.reduceAdd]
theorem c_allows_4 (z : Int) : qE L xs (d + 1) nX9_allows [(0, 4), (0, z)] (qS v) = some (some (0, zb (1 ≤ z ∧ z ≤ 9)), qS v) := by
  simp only [e_X9_allows, b_X9_allows_0, b_X9_allows_4, b_X9_allows_12, b_X9_allows_18, b_X9_allows_21, b_X9_allows_27, b_X9_allows_30, b_X9_allows_34, b_X9_allows_35, show pm_lof [1, 0, -1, 0, 1, 0, 1, 0, 2, 1, 0, 0] 4 = 1 from rfl, show pm_lof [9, 99, 5, 1, 9, 1, 9, 99, 30, 30, 9, 99] 4 = 9 from rfl, qB_some, psh_some, psh_none, and_true, true_and, and_false, false_and, and_self, or_true, true_or, or_false, false_or, not_true_eq_false, not_false_eq_true, ↓reduceIte, Int.reduceEq, Int.reduceLT, Int.reduceLE, Int.reduceToNat, Nat.reduceEqDiff, Nat.reduceAdd]
  by_cases h1 : z < 1
  · rw [if_pos h1, zb_f (by omega)]
  · by_cases h2 : 9 < z
    · rw [if_neg h1, if_pos h2, zb_f (by omega)]
    · rw [if_neg h1, if_neg h2, zb_t (by omega)]
theorem m_may_4 (z : Int) : qE L xs (d + 2) nX12_mayBecome [(0, 4), (1, z)] (qS v) = some (some (0, zb (1 ≤ z ∧ z ≤ 9)), qS v) := by
  simp (disch := omega) only [e_X12_mayBecome, b_X12_mayBecome_0_v0, b_X12_mayBecome_0_v1, b_X12_mayBecome_0_v2, b_X12_mayBecome_0_v3, b_X12_mayBecome_0_v4, b_X12_mayBecome_0_v5, b_X12_mayBecome_0_v6, b_X12_mayBecome_0_v7, b_X12_mayBecome_0_v8, b_X12_mayBecome_0_v9, b_X12_mayBecome_0_v10, b_X12_mayBecome_0_o, b_X12_mayBecome_60, b_X12_mayBecome_68, b_X12_mayBecome_69, b_X12_mayBecome_79, b_X12_mayBecome_80, b_X12_mayBecome_86, b_X12_mayBecome_87, b_X12_mayBecome_97, b_X12_mayBecome_98, b_X12_mayBecome_106, b_X12_mayBecome_107, b_X12_mayBecome_115, b_X12_mayBecome_116, b_X12_mayBecome_124, c_within, zb_r, qB_some, psh_some, psh_none, and_true, true_and, and_false, false_and, and_self, or_true, true_or, or_false, false_or, not_true_eq_false, not_false_eq_true, ↓reduceIte, Int.reduceEq, Int.reduceLT, Int.reduceLE, Int.reduceToNat, Nat.reduceEqDiff, Nat.reduceAdd]
theorem c_allows_5 (z : Int) : qE L xs (d + 1) nX9_allows [(0, 5), (0, z)] (qS v) = some (some (0, zb (0 ≤ z ∧ z ≤ 1)), qS v) := by
  simp only [e_X9_allows, b_X9_allows_0, b_X9_allows_4, b_X9_allows_12, b_X9_allows_18, b_X9_allows_21, b_X9_allows_27, b_X9_allows_30, b_X9_allows_34, b_X9_allows_35, show pm_lof [1, 0, -1, 0, 1, 0, 1, 0, 2, 1, 0, 0] 5 = 0 from rfl, show pm_lof [9, 99, 5, 1, 9, 1, 9, 99, 30, 30, 9, 99] 5 = 1 from rfl, qB_some, psh_some, psh_none, and_true, true_and, and_false, false_and, and_self, or_true, true_or, or_false, false_or, not_true_eq_false, not_false_eq_true, ↓reduceIte, Int.reduceEq, Int.reduceLT, Int.reduceLE, Int.reduceToNat, Nat.reduceEqDiff, Nat.reduceAdd]
  by_cases h1 : z < 0
  · rw [if_pos h1, zb_f (by omega)]
  · by_cases h2 : 1 < z
    · rw [if_neg h1, if_pos h2, zb_f (by omega)]
    · rw [if_neg h1, if_neg h2, zb_t (by omega)]
theorem m_may_5 (z : Int) : qE L xs (d + 2) nX12_mayBecome [(0, 5), (1, z)] (qS v) = some (some (0, zb (0 ≤ z ∧ z ≤ 1)), qS v) := by
  simp (disch := omega) only [e_X12_mayBecome, b_X12_mayBecome_0_v0, b_X12_mayBecome_0_v1, b_X12_mayBecome_0_v2, b_X12_mayBecome_0_v3, b_X12_mayBecome_0_v4, b_X12_mayBecome_0_v5, b_X12_mayBecome_0_v6, b_X12_mayBecome_0_v7, b_X12_mayBecome_0_v8, b_X12_mayBecome_0_v9, b_X12_mayBecome_0_v10, b_X12_mayBecome_0_o, b_X12_mayBecome_60, b_X12_mayBecome_68, b_X12_mayBecome_69, b_X12_mayBecome_79, b_X12_mayBecome_80, b_X12_mayBecome_86, b_X12_mayBecome_87, b_X12_mayBecome_97, b_X12_mayBecome_98, b_X12_mayBecome_106, b_X12_mayBecome_107, b_X12_mayBecome_115, b_X12_mayBecome_116, b_X12_mayBecome_124, c_within, zb_r, qB_some, psh_some, psh_none, and_true, true_and, and_false, false_and, and_self, or_true, true_or, or_false, false_or, not_true_eq_false, not_false_eq_true, ↓reduceIte, Int.reduceEq, Int.reduceLT, Int.reduceLE, Int.reduceToNat, Nat.reduceEqDiff, Nat.reduceAdd]
theorem c_allows_6 (z : Int) : qE L xs (d + 1) nX9_allows [(0, 6), (0, z)] (qS v) = some (some (0, zb (1 ≤ z ∧ z ≤ 9)), qS v) := by
  simp only [e_X9_allows, b_X9_allows_0, b_X9_allows_4, b_X9_allows_12, b_X9_allows_18, b_X9_allows_21, b_X9_allows_27, b_X9_allows_30, b_X9_allows_34, b_X9_allows_35, show pm_lof [1, 0, -1, 0, 1, 0, 1, 0, 2, 1, 0, 0] 6 = 1 from rfl, show pm_lof [9, 99, 5, 1, 9, 1, 9, 99, 30, 30, 9, 99] 6 = 9 from rfl, qB_some, psh_some, psh_none, and_true, true_and, and_false, false_and, and_self, or_true, true_or, or_false, false_or, not_true_eq_false, not_false_eq_true, ↓reduceIte, Int.reduceEq, Int.reduceLT, Int.reduceLE, Int.reduceToNat, Nat.reduceEqDiff, Nat.reduceAdd]
  by_cases h1 : z < 1
  · rw [if_pos h1, zb_f (by omega)]
  · by_cases h2 : 9 < z
    · rw [if_neg h1, if_pos h2, zb_f (by omega)]
    · rw [if_neg h1, if_neg h2, zb_t (by omega)]
theorem m_may_6 (z : Int) : qE L xs (d + 2) nX12_mayBecome [(0, 6), (1, z)] (qS v) = some (some (0, zb (1 ≤ z ∧ z ≤ 9)), qS v) := by
  simp (disch := omega) only [e_X12_mayBecome, b_X12_mayBecome_0_v0, b_X12_mayBecome_0_v1, b_X12_mayBecome_0_v2, b_X12_mayBecome_0_v3, b_X12_mayBecome_0_v4, b_X12_mayBecome_0_v5, b_X12_mayBecome_0_v6, b_X12_mayBecome_0_v7, b_X12_mayBecome_0_v8, b_X12_mayBecome_0_v9, b_X12_mayBecome_0_v10, b_X12_mayBecome_0_o, b_X12_mayBecome_60, b_X12_mayBecome_68, b_X12_mayBecome_69, b_X12_mayBecome_79, b_X12_mayBecome_80, b_X12_mayBecome_86, b_X12_mayBecome_87, b_X12_mayBecome_97, b_X12_mayBecome_98, b_X12_mayBecome_106, b_X12_mayBecome_107, b_X12_mayBecome_115, b_X12_mayBecome_116, b_X12_mayBecome_124, c_within, zb_r, qB_some, psh_some, psh_none, and_true, true_and, and_false, false_and, and_self, or_true, true_or, or_false, false_or, not_true_eq_false, not_false_eq_true, ↓reduceIte, Int.reduceEq, Int.reduceLT, Int.reduceLE, Int.reduceToNat, Nat.reduceEqDiff, Nat.reduceAdd]
theorem c_allows_7 (z : Int) : qE L xs (d + 1) nX9_allows [(0, 7), (0, z)] (qS v) = some (some (0, zb (0 ≤ z ∧ z ≤ 99)), qS v) := by
  simp only [e_X9_allows, b_X9_allows_0, b_X9_allows_4, b_X9_allows_12, b_X9_allows_18, b_X9_allows_21, b_X9_allows_27, b_X9_allows_30, b_X9_allows_34, b_X9_allows_35, show pm_lof [1, 0, -1, 0, 1, 0, 1, 0, 2, 1, 0, 0] 7 = 0 from rfl, show pm_lof [9, 99, 5, 1, 9, 1, 9, 99, 30, 30, 9, 99] 7 = 99 from rfl, qB_some, psh_some, psh_none, and_true, true_and, and_false, false_and, and_self, or_true, true_or, or_false, false_or, not_true_eq_false, not_false_eq_true, ↓reduceIte, Int.reduceEq, Int.reduceLT, Int.reduceLE, Int.reduceToNat, Nat.reduceEqDiff, Nat.reduceAdd]
  by_cases h1 : z < 0
  · rw [if_pos h1, zb_f (by omega)]
  · by_cases h2 : 99 < z
    · rw [if_neg h1, if_pos h2, zb_f (by omega)]
    · rw [if_neg h1, if_neg h2, zb_t (by omega)]
theorem m_may_7 (z : Int) : qE L xs (d + 2) nX12_mayBecome [(0, 7), (1, z)] (qS v) = some (some (0, zb (0 ≤ z ∧ z ≤ 99)), qS v) := by
  simp (disch := omega) only [e_X12_mayBecome, b_X12_mayBecome_0_v0, b_X12_mayBecome_0_v1, b_X12_mayBecome_0_v2, b_X12_mayBecome_0_v3, b_X12_mayBecome_0_v4, b_X12_mayBecome_0_v5, b_X12_mayBecome_0_v6, b_X12_mayBecome_0_v7, b_X12_mayBecome_0_v8, b_X12_mayBecome_0_v9, b_X12_mayBecome_0_v10, b_X12_mayBecome_0_o, b_X12_mayBecome_60, b_X12_mayBecome_68, b_X12_mayBecome_69, b_X12_mayBecome_79, b_X12_mayBecome_80, b_X12_mayBecome_86, b_X12_mayBecome_87, b_X12_mayBecome_97, b_X12_mayBecome_98, b_X12_mayBecome_106, b_X12_mayBecome_107, b_X12_mayBecome_115, b_X12_mayBecome_116, b_X12_mayBecome_124, c_within, zb_r, qB_some, psh_some, psh_none, and_true, true_and, and_false, false_and, and_self, or_true, true_or, or_false, false_or, not_true_eq_false, not_false_eq_true, ↓reduceIte, Int.reduceEq, Int.reduceLT, Int.reduceLE, Int.reduceToNat, Nat.reduceEqDiff, Nat.reduceAdd]
theorem c_allows_8 (z : Int) : qE L xs (d + 1) nX9_allows [(0, 8), (0, z)] (qS v) = some (some (0, zb (2 ≤ z ∧ z ≤ 30)), qS v) := by
  simp only [e_X9_allows, b_X9_allows_0, b_X9_allows_4, b_X9_allows_12, b_X9_allows_18, b_X9_allows_21, b_X9_allows_27, b_X9_allows_30, b_X9_allows_34, b_X9_allows_35, show pm_lof [1, 0, -1, 0, 1, 0, 1, 0, 2, 1, 0, 0] 8 = 2 from rfl, show pm_lof [9, 99, 5, 1, 9, 1, 9, 99, 30, 30, 9, 99] 8 = 30 from rfl, qB_some, psh_some, psh_none, and_true, true_and, and_false, false_and, and_self, or_true, true_or, or_false, false_or, not_true_eq_false, not_false_eq_true, ↓reduceIte, Int.reduceEq, Int.reduceLT, Int.reduceLE, Int.reduceToNat, Nat.reduceEqDiff, Nat.reduceAdd]
  by_cases h1 : z < 2
  · rw [if_pos h1, zb_f (by omega)]
  · by_cases h2 : 30 < z
    · rw [if_neg h1, if_pos h2, zb_f (by omega)]
    · rw [if_neg h1, if_neg h2, zb_t (by omega)]
theorem m_may_8 (z : Int) : qE L xs (d + 2) nX12_mayBecome [(0, 8), (1, z)] (qS v) = some (some (0, zb (2 ≤ z ∧ z ≤ 30)), qS v) := by
  simp (disch := omega) only [e_X12_mayBecome, b_X12_mayBecome_0_v0, b_X12_mayBecome_0_v1, b_X12_mayBecome_0_v2, b_X12_mayBecome_0_v3, b_X12_mayBecome_0_v4, b_X12_mayBecome_0_v5, b_X12_mayBecome_0_v6, b_X12_mayBecome_0_v7, b_X12_mayBecome_0_v8, b_X12_mayBecome_0_v9, b_X12_mayBecome_0_v10, b_X12_mayBecome_0_o, b_X12_mayBecome_60, b_X12_mayBecome_68, b_X12_mayBecome_69, b_X12_mayBecome_79, b_X12_mayBecome_80, b_X12_mayBecome_86, b_X12_mayBecome_87, b_X12_mayBecome_97, b_X12_mayBecome_98, b_X12_mayBecome_106, b_X12_mayBecome_107, b_X12_mayBecome_115, b_X12_mayBecome_116, b_X12_mayBecome_124, c_within, zb_r, qB_some, psh_some, psh_none, and_true, true_and, and_false, false_and, and_self, or_true, true_or, or_false, false_or, not_true_eq_false, not_false_eq_true, ↓reduceIte, Int.reduceEq, Int.reduceLT, Int.reduceLE, Int.reduceToNat, Nat.reduceEqDiff, Nat.reduceAdd]
theorem c_allows_9 (z : Int) : qE L xs (d + 1) nX9_allows [(0, 9), (0, z)] (qS v) = some (some (0, zb (1 ≤ z ∧ z ≤ 30)), qS v) := by
  simp only [e_X9_allows, b_X9_allows_0, b_X9_allows_4, b_X9_allows_12, b_X9_allows_18, b_X9_allows_21, b_X9_allows_27, b_X9_allows_30, b_X9_allows_34, b_X9_allows_35, show pm_lof [1, 0, -1, 0, 1, 0, 1, 0, 2, 1, 0, 0] 9 = 1 from rfl, show pm_lof [9, 99, 5, 1, 9, 1, 9, 99, 30, 30, 9, 99] 9 = 30 from rfl, qB_some, psh_some, psh_none, and_true, true_and, and_false, false_and, and_self, or_true, true_or, or_false, false_or, not_true_eq_false, not_false_eq_true, ↓reduceIte, Int.reduceEq, Int.reduceLT, Int.reduceLE, Int.reduceToNat, Nat.reduceEqDiff, Nat.reduceAdd]
  by_cases h1 : z < 1
  · rw [if_pos h1, zb_f (by omega)]
  · by_cases h2 : 30 < z
    · rw [if_neg h1, if_pos h2, zb_f (by omega)]
    · rw [if_neg h1, if_neg h2, zb_t (by omega)]
theorem m_may_9 (z : Int) : qE L xs (d + 2) nX12_mayBecome [(0, 9), (1, z)] (qS v) = some (some (0, zb (1 ≤ z ∧ z ≤ 30)), qS v) := by
  simp (disch := omega) only [e_X12_mayBecome, b_X12_mayBecome_0_v0, b_X12_mayBecome_0_v1, b_X12_mayBecome_0_v2, b_X12_mayBecome_0_v3, b_X12_mayBecome_0_v4, b_X12_mayBecome_0_v5, b_X12_mayBecome_0_v6, b_X12_mayBecome_0_v7, b_X12_mayBecome_0_v8, b_X12_mayBecome_0_v9, b_X12_mayBecome_0_v10, b_X12_mayBecome_0_o, b_X12_mayBecome_60, b_X12_mayBecome_68, b_X12_mayBecome_69, b_X12_mayBecome_79, b_X12_mayBecome_80, b_X12_mayBecome_86, b_X12_mayBecome_87, b_X12_mayBecome_97, b_X12_mayBecome_98, b_X12_mayBecome_106, b_X12_mayBecome_107, b_X12_mayBecome_115, b_X12_mayBecome_116, b_X12_mayBecome_124, c_within, zb_r, qB_some, psh_some, psh_none, and_true, true_and, and_false, false_and, and_self, or_true, true_or, or_false, false_or, not_true_eq_false, not_false_eq_true, ↓reduceIte, Int.reduceEq, Int.reduceLT, Int.reduceLE, Int.reduceToNat, Nat.reduceEqDiff, Nat.reduceAdd]
theorem c_allows_10 (z : Int) : qE L xs (d + 1) nX9_allows [(0, 10), (0, z)] (qS v) = some (some (0, zb (0 ≤ z ∧ z ≤ 9)), qS v) := by
  simp only [e_X9_allows, b_X9_allows_0, b_X9_allows_4, b_X9_allows_12, b_X9_allows_18, b_X9_allows_21, b_X9_allows_27, b_X9_allows_30, b_X9_allows_34, b_X9_allows_35, show pm_lof [1, 0, -1, 0, 1, 0, 1, 0, 2, 1, 0, 0] 10 = 0 from rfl, show pm_lof [9, 99, 5, 1, 9, 1, 9, 99, 30, 30, 9, 99] 10 = 9 from rfl, qB_some, psh_some, psh_none, and_true, true_and, and_false, false_and, and_self, or_true, true_or, or_false, false_or, not_true_eq_false, not_false_eq_true, ↓reduceIte, Int.reduceEq, Int.reduceLT, Int.reduceLE, Int.reduceToNat, Nat.reduceEqDiff, Nat.reduceAdd]
  by_cases h1 : z < 0
  · rw [if_pos h1, zb_f (by omega)]
  · by_cases h2 : 9 < z
    · rw [if_neg h1, if_pos h2, zb_f (by omega)]
    · rw [if_neg h1, if_neg h2, zb_t (by omega)]
theorem m_may_10 (z : Int) : qE L xs (d + 2) nX12_mayBecome [(0, 10), (1, z)] (qS v) = some (some (0, zb (0 ≤ z ∧ z ≤ 9)), qS v) := by
  simp (disch := omega) only [e_X12_mayBecome, b_X12_mayBecome_0_v0, b_X12_mayBecome_0_v1, b_X12_mayBecome_0_v2, b_X12_mayBecome_0_v3, b_X12_mayBecome_0_v4, b_X12_mayBecome_0_v5, b_X12_mayBecome_0_v6, b_X12_mayBecome_0_v7, b_X12_mayBecome_0_v8, b_X12_mayBecome_0_v9, b_X12_mayBecome_0_v10, b_X12_mayBecome_0_o, b_X12_mayBecome_60, b_X12_mayBecome_68, b_X12_mayBecome_69, b_X12_mayBecome_79, b_X12_mayBecome_80, b_X12_mayBecome_86, b_X12_mayBecome_87, b_X12_mayBecome_97, b_X12_mayBecome_98, b_X12_mayBecome_106, b_X12_mayBecome_107, b_X12_mayBecome_115, b_X12_mayBecome_116, b_X12_mayBecome_124, c_within, zb_r, qB_some, psh_some, psh_none, and_true, true_and, and_false, false_and, and_self, or_true, true_or, or_false, false_or, not_true_eq_false, not_false_eq_true, ↓reduceIte, Int.reduceEq, Int.reduceLT, Int.reduceLE, Int.reduceToNat, Nat.reduceEqDiff, Nat.reduceAdd]
theorem c_allows_11 (z : Int) : qE L xs (d + 1) nX9_allows [(0, 11), (0, z)] (qS v) = some (some (0, zb (0 ≤ z ∧ z ≤ 99)), qS v) := by
  simp only [e_X9_allows, b_X9_allows_0, b_X9_allows_4, b_X9_allows_12, b_X9_allows_18, b_X9_allows_21, b_X9_allows_27, b_X9_allows_30, b_X9_allows_34, b_X9_allows_35, show pm_lof [1, 0, -1, 0, 1, 0, 1, 0, 2, 1, 0, 0] 11 = 0 from rfl, show pm_lof [9, 99, 5, 1, 9, 1, 9, 99, 30, 30, 9, 99] 11 = 99 from rfl, qB_some, psh_some, psh_none, and_true, true_and, and_false, false_and, and_self, or_true, true_or, or_false, false_or, not_true_eq_false, not_false_eq_true, ↓reduceIte, Int.reduceEq, Int.reduceLT, Int.reduceLE, Int.reduceToNat, Nat.reduceEqDiff, Nat.reduceAdd]
  by_cases h1 : z < 0
  · rw [if_pos h1, zb_f (by omega)]
  · by_cases h2 : 99 < z
    · rw [if_neg h1, if_pos h2, zb_f (by omega)]
    · rw [if_neg h1, if_neg h2, zb_t (by omega)]
theorem m_may_11 (z : Int) : qE L xs (d + 2) nX12_mayBecome [(0, 11), (1, z)] (qS v) = some (some (0, zb (0 ≤ z ∧ z ≤ 99)), qS v) := by
  simp (disch := omega) only [e_X12_mayBecome, b_X12_mayBecome_0_v0, b_X12_mayBecome_0_v1, b_X12_mayBecome_0_v2, b_X12_mayBecome_0_v3, b_X12_mayBecome_0_v4, b_X12_mayBecome_0_v5, b_X12_mayBecome_0_v6, b_X12_mayBecome_0_v7, b_X12_mayBecome_0_v8, b_X12_mayBecome_0_v9, b_X12_mayBecome_0_v10, b_X12_mayBecome_0_o, b_X12_mayBecome_60, b_X12_mayBecome_68, b_X12_mayBecome_69, b_X12_mayBecome_79, b_X12_mayBecome_80, b_X12_mayBecome_86, b_X12_mayBecome_87, b_X12_mayBecome_97, b_X12_mayBecome_98, b_X12_mayBecome_106, b_X12_mayBecome_107, b_X12_mayBecome_115, b_X12_mayBecome_116, b_X12_mayBecome_124, c_within, zb_r, qB_some, psh_some, psh_none, and_true, true_and, and_false, false_and, and_self, or_true, true_or, or_false, false_or, not_true_eq_false, not_false_eq_true, ↓reduceIte, Int.reduceEq, Int.reduceLT, Int.reduceLE, Int.reduceToNat, Nat.reduceEqDiff, Nat.reduceAdd]
end OE
