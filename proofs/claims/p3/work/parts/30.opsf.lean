/-! THE FIRST STATE's calls: lanes, digging, images, the law of an empty tape (written by wip/p1/30.opsf.py) -/
section OF
variable {L : Nat} {xs : Nat → Int} {d : Nat} {v : Nat → Nat → Int} {a b c x y z : Int}
theorem c_arePlaces (h1 : 0 ≤ v 11 0) (h2 : v 11 0 ≤ 30) (y : Int) (hy : y < 2147483648) : qE L xs (d + 4) nX11_arePlaces [(2, 0), (0, y)] (qS v) = some (some (0, zb (0 ≤ y ∧ y / 100 < 2 * v 11 0 ∧ y % 100 < 2 * v 11 0)), qS v) := by
  by_cases h0 : 0 ≤ y
  · simp (disch := omega) only [e_X11_arePlaces, b_X11_arePlaces_0, b_X11_arePlaces_4, b_X11_arePlaces_15, b_X11_arePlaces_18, b_X11_arePlaces_29, b_X11_arePlaces_32, b_X11_arePlaces_36, b_X11_arePlaces_37, c_hasPlace, zb_0, td_pos, tm_pos, w32_id, if_neg, qB_some, psh_some, psh_none, and_true, true_and, and_false, false_and, and_self, or_true, true_or, or_false, false_or, not_true_eq_false, not_false_eq_true, ↓reduceIte, Int.reduceEq, Int.reduceLT, Int.reduceLE, Int.reduceToNat, Nat.reduceEqDiff, Nat.reduceAdd]
    by_cases h3 : 0 ≤ y / 100 ∧ y / 100 < 2 * v 11 0
    · rw [if_pos h3]
      by_cases h4 : 0 ≤ y % 100 ∧ y % 100 < 2 * v 11 0
      · rw [if_pos h4, zb_t (by omega)]
      · rw [if_neg h4, zb_f (by omega)]
    · rw [if_neg h3, zb_f (by omega)]
  · simp (disch := omega) only [e_X11_arePlaces, b_X11_arePlaces_0, b_X11_arePlaces_4, b_X11_arePlaces_15, b_X11_arePlaces_18, b_X11_arePlaces_29, b_X11_arePlaces_32, b_X11_arePlaces_36, b_X11_arePlaces_37, if_pos, zb_f, qB_some, psh_some, psh_none, and_true, true_and, and_false, false_and, and_self, or_true, true_or, or_false, false_or, not_true_eq_false, not_false_eq_true, ↓reduceIte, Int.reduceEq, Int.reduceLT, Int.reduceLE, Int.reduceToNat, Nat.reduceEqDiff, Nat.reduceAdd]
theorem c_areYards (h1 : 0 ≤ v 11 0) (h2 : v 11 0 ≤ 30) (y : Int) (hy : y < 2147483648) : qE L xs (d + 4) nX11_areYards [(2, 0), (0, y)] (qS v) = some (some (0, zb (0 ≤ y ∧ y / 100 < v 11 0 ∧ y % 100 < v 11 0)), qS v) := by
  by_cases h0 : 0 ≤ y
  · simp (disch := omega) only [e_X11_areYards, b_X11_areYards_0, b_X11_areYards_4, b_X11_areYards_15, b_X11_areYards_18, b_X11_areYards_29, b_X11_areYards_32, b_X11_areYards_36, b_X11_areYards_37, c_hasYard, zb_0, td_pos, tm_pos, w32_id, if_neg, qB_some, psh_some, psh_none, and_true, true_and, and_false, false_and, and_self, or_true, true_or, or_false, false_or, not_true_eq_false, not_false_eq_true, ↓reduceIte, Int.reduceEq, Int.reduceLT, Int.reduceLE, Int.reduceToNat, Nat.reduceEqDiff, Nat.reduceAdd]
    by_cases h3 : 0 ≤ y / 100 ∧ y / 100 < v 11 0
    · rw [if_pos h3]
      by_cases h4 : 0 ≤ y % 100 ∧ y % 100 < v 11 0
      · rw [if_pos h4, zb_t (by omega)]
      · rw [if_neg h4, zb_f (by omega)]
    · rw [if_neg h3, zb_f (by omega)]
  · simp (disch := omega) only [e_X11_areYards, b_X11_areYards_0, b_X11_areYards_4, b_X11_areYards_15, b_X11_areYards_18, b_X11_areYards_29, b_X11_areYards_32, b_X11_areYards_36, b_X11_areYards_37, if_pos, zb_f, qB_some, psh_some, psh_none, and_true, true_and, and_false, false_and, and_self, or_true, true_or, or_false, false_or, not_true_eq_false, not_false_eq_true, ↓reduceIte, Int.reduceEq, Int.reduceLT, Int.reduceLE, Int.reduceToNat, Nat.reduceEqDiff, Nat.reduceAdd]
theorem m_isAb (h1 : 0 ≤ v 64 140) (h2 : v 64 140 ≤ 30) (y : Int) (hy : y < 2147483648) : qE L xs (d + 4) nX12_isAb [(2, 63), (0, y)] (qS v) = some (some (0, zb (0 ≤ y ∧ y / 100 < 2 * v 64 140 ∧ y % 100 < 2 * v 64 140)), qS v) := by
  by_cases h0 : 0 ≤ y
  · simp (disch := omega) only [e_X12_isAb, b_X12_isAb_0, b_X12_isAb_4, b_X12_isAb_13, b_X12_isAb_16, b_X12_isAb_25, b_X12_isAb_28, b_X12_isAb_32, b_X12_isAb_33, c_isPlace, zb_0, td_pos, tm_pos, w32_id, if_neg, qB_some, psh_some, psh_none, and_true, true_and, and_false, false_and, and_self, or_true, true_or, or_false, false_or, not_true_eq_false, not_false_eq_true, ↓reduceIte, Int.reduceEq, Int.reduceLT, Int.reduceLE, Int.reduceToNat, Nat.reduceEqDiff, Nat.reduceAdd]
    by_cases h3 : 0 ≤ y / 100 ∧ y / 100 < 2 * v 64 140
    · rw [if_pos h3]
      by_cases h4 : 0 ≤ y % 100 ∧ y % 100 < 2 * v 64 140
      · rw [if_pos h4, zb_t (by omega)]
      · rw [if_neg h4, zb_f (by omega)]
    · rw [if_neg h3, zb_f (by omega)]
  · simp (disch := omega) only [e_X12_isAb, b_X12_isAb_0, b_X12_isAb_4, b_X12_isAb_13, b_X12_isAb_16, b_X12_isAb_25, b_X12_isAb_28, b_X12_isAb_32, b_X12_isAb_33, if_pos, zb_f, qB_some, psh_some, psh_none, and_true, true_and, and_false, false_and, and_self, or_true, true_or, or_false, false_or, not_true_eq_false, not_false_eq_true, ↓reduceIte, Int.reduceEq, Int.reduceLT, Int.reduceLE, Int.reduceToNat, Nat.reduceEqDiff, Nat.reduceAdd]
theorem m_areYards (h1 : 0 ≤ v 64 140) (h2 : v 64 140 ≤ 30) (y : Int) (hy : y < 2147483648) : qE L xs (d + 4) nX12_areYards [(2, 63), (0, y)] (qS v) = some (some (0, zb (0 ≤ y ∧ y / 100 < v 64 140 ∧ y % 100 < v 64 140)), qS v) := by
  by_cases h0 : 0 ≤ y
  · simp (disch := omega) only [e_X12_areYards, b_X12_areYards_0, b_X12_areYards_4, b_X12_areYards_13, b_X12_areYards_16, b_X12_areYards_25, b_X12_areYards_28, b_X12_areYards_32, b_X12_areYards_33, c_isYard, zb_0, td_pos, tm_pos, w32_id, if_neg, qB_some, psh_some, psh_none, and_true, true_and, and_false, false_and, and_self, or_true, true_or, or_false, false_or, not_true_eq_false, not_false_eq_true, ↓reduceIte, Int.reduceEq, Int.reduceLT, Int.reduceLE, Int.reduceToNat, Nat.reduceEqDiff, Nat.reduceAdd]
    by_cases h3 : 0 ≤ y / 100 ∧ y / 100 < v 64 140
    · rw [if_pos h3]
      by_cases h4 : 0 ≤ y % 100 ∧ y % 100 < v 64 140
      · rw [if_pos h4, zb_t (by omega)]
      · rw [if_neg h4, zb_f (by omega)]
    · rw [if_neg h3, zb_f (by omega)]
  · simp (disch := omega) only [e_X12_areYards, b_X12_areYards_0, b_X12_areYards_4, b_X12_areYards_13, b_X12_areYards_16, b_X12_areYards_25, b_X12_areYards_28, b_X12_areYards_32, b_X12_areYards_33, if_pos, zb_f, qB_some, psh_some, psh_none, and_true, true_and, and_false, false_and, and_self, or_true, true_or, or_false, false_or, not_true_eq_false, not_false_eq_true, ↓reduceIte, Int.reduceEq, Int.reduceLT, Int.reduceLE, Int.reduceToNat, Nat.reduceEqDiff, Nat.reduceAdd]
theorem c_become44 : qE L xs (d + 1) nX2_become [(2, 44), (2, 41)] (qS v) = some (none, qS (pm_cpy v 42 45 0 0 36)) := by
  rw [e_X2_become_44_41, b_X2_become_44_41_0]
  refine (qG_cpy (s := 42) (t := 45) (e := 0) (ns := 36) (nt := 36) rfl rfl rfl rfl (Or.inl rfl) (by omega) (by omega) (by omega) (by omega) (by omega) rfl (nr_of rfl) (nr_of rfl)).trans ?_
  exact b_X2_become_44_41_18
theorem qG_alen {C : pm_C} {pc c e n : Nat} {ls st : List pm_V} {x : pm_A} (hf : pm_fetch C pc = some (.arraylength, x)) (hc : c < 1000) (hs : pm_get SH c = some (1, e, n)) : qG L xs d C pc ls ((2, .ofNat c) :: st) (qS v) = qG L xs d C (pc + 1) ls ((0, (n : Int)) :: st) (qS v) := qG_1n hf (by
  show pm_alen (pm_X0 L xs) pc ls ((2, .ofNat c) :: st) (qS v) = _
  exact pm_alen_own hc hs)
theorem c_write {c : Nat} (hc : c = 25 ∨ c = 26) (h2 : v 23 2 = .ofNat c) (h0 : 0 ≤ v 23 6) (h6 : v 23 6 < 121) (z : Int) : qE L xs (d + 1) nX5_write [(2, 23), (0, z)] (qS v) = some (none, qS (pm_up (pm_up v c (v 23 6).toNat z) 23 6 (v 23 6 + 1))) := by
  have hs : pm_get SH c = some (1, 0, 121) := by rcases hc with rfl | rfl <;> rfl
  have hr : ∀ k, refAt c k = none := by rcases hc with rfl | rfl <;> exact nr_of rfl
  rw [e_X5_write, b_X5_write_0, h2]
  refine (qG_alen rfl (by omega) hs).trans ?_
  show qG L xs d CX5_write 9 [(2, 23), (0, z)] [(0, 121), (0, v 23 6)] (qS v) = _
  rw [b_X5_write_9, if_pos h6, b_X5_write_12, h2]
  refine (qG_ast2 (Or.inl ⟨rfl, rfl⟩) rfl hs h0 (by omega) (hr _)).trans ?_
  show qG L xs d CX5_write 22 _ _ _ = _
  rw [b_X5_write_22, b_X5_write_32, up_ne (by omega), w32_id (by omega) (by omega)]
end OF
