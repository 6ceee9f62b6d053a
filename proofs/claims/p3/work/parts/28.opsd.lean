/-! THE FIRST STATE's calls: owners, images -/
section OD
variable {L : Nat} {xs : Nat → Int} {d : Nat} {v : Nat → Nat → Int} {a b c x y z : Int}
theorem cd_hasOwner (a : Int) : qE L xs (d + 1) nX2_hasOwner [(0, a)] (qS v) = some (some (0, zb (0 ≤ a ∧ a < 6)), qS v) := by
  simp only [e_X2_hasOwner, b_X2_hasOwner_0, b_X2_hasOwner_4, b_X2_hasOwner_10, b_X2_hasOwner_14, b_X2_hasOwner_15, qB_some, psh_some, psh_none, and_true, true_and, and_false, false_and, and_self, or_true, true_or, or_false, false_or, not_true_eq_false, not_false_eq_true, ↓reduceIte, Int.reduceEq, Int.reduceLT, Int.reduceLE, Int.reduceToNat, Nat.reduceEqDiff, Nat.reduceAdd]
  by_cases h1 : a < 0
  · rw [if_pos h1, zb_f (by omega)]
  · by_cases h2 : a < 6
    · rw [if_neg h1, if_pos h2, zb_t (by omega)]
    · rw [if_neg h1, if_neg h2, zb_f (by omega)]
theorem cd_lent (a b : Int) (h1 : 0 ≤ a ∧ a < 6) (h2 : 0 ≤ b ∧ b < 6) : qE L xs (d + 2) nX2_lent [(2, 41), (0, a), (0, b)] (qS v) = some (some (0, v 42 (a * 6 + b).toNat), qS v) := by
  simp (disch := omega) only [e_X2_lent_41, b_X2_lent_41_0, b_X2_lent_41_4, b_X2_lent_41_7, b_X2_lent_41_11, b_X2_lent_41_14, b_X2_lent_41_25, b_X2_lent_41_28, b_X2_lent_41_29, cd_hasOwner, zb_0, if_pos h1, if_pos h2, w32_id, if_pos, qB_some, psh_some, psh_none, and_true, true_and, and_false, false_and, and_self, or_true, true_or, or_false, false_or, not_true_eq_false, not_false_eq_true, ↓reduceIte, Int.reduceEq, Int.reduceLT, Int.reduceLE, Int.reduceToNat, Nat.reduceEqDiff, Nat.reduceAdd]
theorem cd_areOwners (y : Int) (hy : y < 2147483648) : qE L xs (d + 2) nX11_areOwners [(0, y)] (qS v) = some (some (0, zb (0 ≤ y ∧ y / 10 < 6 ∧ y % 10 < 6 ∧ y / 10 ≠ y % 10)), qS v) := by
  by_cases h0 : 0 ≤ y
  · simp (disch := omega) only [e_X11_areOwners, b_X11_areOwners_0, b_X11_areOwners_4, b_X11_areOwners_11, b_X11_areOwners_14, b_X11_areOwners_21, b_X11_areOwners_24, b_X11_areOwners_35, b_X11_areOwners_39, b_X11_areOwners_40, cd_hasOwner, zb_0, td_pos, tm_pos, w32_id, if_neg, qB_some, psh_some, psh_none, and_true, true_and, and_false, false_and, and_self, or_true, true_or, or_false, false_or, not_true_eq_false, not_false_eq_true, ↓reduceIte, Int.reduceEq, Int.reduceLT, Int.reduceLE, Int.reduceToNat, Nat.reduceEqDiff, Nat.reduceAdd]
    by_cases h1 : 0 ≤ y / 10 ∧ y / 10 < 6
    · rw [if_pos h1]
      by_cases h2 : 0 ≤ y % 10 ∧ y % 10 < 6
      · rw [if_pos h2]
        by_cases h3 : y / 10 = y % 10
        · rw [if_pos h3, zb_f (by omega)]
        · rw [if_neg h3, zb_t (by omega)]
      · rw [if_neg h2, zb_f (by omega)]
    · rw [if_neg h1, zb_f (by omega)]
  · simp (disch := omega) only [e_X11_areOwners, b_X11_areOwners_0, b_X11_areOwners_4, b_X11_areOwners_11, b_X11_areOwners_14, b_X11_areOwners_21, b_X11_areOwners_24, b_X11_areOwners_35, b_X11_areOwners_39, b_X11_areOwners_40, if_pos, zb_f, qB_some, psh_some, psh_none, and_true, true_and, and_false, false_and, and_self, or_true, true_or, or_false, false_or, not_true_eq_false, not_false_eq_true, ↓reduceIte, Int.reduceEq, Int.reduceLT, Int.reduceLE, Int.reduceToNat, Nat.reduceEqDiff, Nat.reduceAdd]
theorem md_isOwner (a : Int) : qE L xs (d + 2) nX12_isOwner [(0, a)] (qS v) = some (some (0, zb (0 ≤ a ∧ a < 6)), qS v) := by
  simp only [e_X12_isOwner, b_X12_isOwner_0, b_X12_isOwner_9, c_within, zb_r, qB_some, psh_some, psh_none, and_true, true_and, and_false, false_and, and_self, or_true, true_or, or_false, false_or, not_true_eq_false, not_false_eq_true, ↓reduceIte, Int.reduceEq, Int.reduceLT, Int.reduceLE, Int.reduceToNat, Nat.reduceEqDiff, Nat.reduceAdd]
  exact ret_zb (by omega)
theorem md_areOwners (y : Int) (hy : y < 2147483648) : qE L xs (d + 3) nX12_areOwners [(0, y)] (qS v) = some (some (0, zb (0 ≤ y ∧ y / 10 < 6 ∧ y % 10 < 6 ∧ y / 10 ≠ y % 10)), qS v) := by
  by_cases h0 : 0 ≤ y
  · simp (disch := omega) only [e_X12_areOwners, b_X12_areOwners_0, b_X12_areOwners_4, b_X12_areOwners_11, b_X12_areOwners_14, b_X12_areOwners_21, b_X12_areOwners_24, b_X12_areOwners_35, b_X12_areOwners_39, b_X12_areOwners_40, md_isOwner, zb_0, td_pos, tm_pos, w32_id, if_neg, qB_some, psh_some, psh_none, and_true, true_and, and_false, false_and, and_self, or_true, true_or, or_false, false_or, not_true_eq_false, not_false_eq_true, ↓reduceIte, Int.reduceEq, Int.reduceLT, Int.reduceLE, Int.reduceToNat, Nat.reduceEqDiff, Nat.reduceAdd]
    by_cases h1 : 0 ≤ y / 10 ∧ y / 10 < 6
    · rw [if_pos h1]
      by_cases h2 : 0 ≤ y % 10 ∧ y % 10 < 6
      · rw [if_pos h2]
        by_cases h3 : y / 10 = y % 10
        · rw [if_pos h3, zb_f (by omega)]
        · rw [if_neg h3, zb_t (by omega)]
      · rw [if_neg h2, zb_f (by omega)]
    · rw [if_neg h1, zb_f (by omega)]
  · simp (disch := omega) only [e_X12_areOwners, b_X12_areOwners_0, b_X12_areOwners_4, b_X12_areOwners_11, b_X12_areOwners_14, b_X12_areOwners_21, b_X12_areOwners_24, b_X12_areOwners_35, b_X12_areOwners_39, b_X12_areOwners_40, if_pos, zb_f, qB_some, psh_some, psh_none, and_true, true_and, and_false, false_and, and_self, or_true, true_or, or_false, false_or, not_true_eq_false, not_false_eq_true, ↓reduceIte, Int.reduceEq, Int.reduceLT, Int.reduceLE, Int.reduceToNat, Nat.reduceEqDiff, Nat.reduceAdd]
def pm_cp (v : Nat → Nat → Int) (s t lo hi : Nat) : Nat → Nat → Int := fun a i => if a = t ∧ lo ≤ i ∧ i < hi then v s i else v a i
theorem pm_cp_step {s t j n : Nat} (hst : s ≠ t) : pm_cp (pm_up v t (j : Int).toNat (v s (j : Int).toNat)) s t (j + 1) (j + 1 + n) = pm_cp v s t j (j + (n + 1)) := by
  funext a i
  unfold pm_cp
  by_cases h1 : a = t ∧ j + 1 ≤ i ∧ i < j + 1 + n
  · rw [if_pos h1, if_pos (by omega), up_ne (by omega)]
  · rw [if_neg h1]
    by_cases h2 : a = t ∧ i = j
    · rw [if_pos (by omega), h2.1, h2.2, show (j : Int).toNat = j by omega, up_eq]
    · rw [if_neg (by omega), up_ne (by omega)]
theorem pm_cp_0 {s t j : Nat} : pm_cp v s t j (j + 0) = v := by
  funext a i
  exact if_neg (by omega)
theorem lp_left (x1 x2 x3 : Int) : ∀ (n j : Nat) (v : Nat → Nat → Int), j + n = 36 → qG L xs d CX12_bricks 112 [(2, 63), (0, x1), (0, x2), (0, x3), (0, (j : Int))] [] (qS v) = qG L xs d CX12_bricks 139 [(2, 63), (0, x1), (0, x2), (0, x3), (0, 36)] [] (qS (pm_cp v 79 80 j (j + n)))
  | 0, j, v, hj => by
    rw [b_X12_bricks_112, if_neg (by omega), show (j : Int) = 36 by omega, pm_cp_0]
  | n + 1, j, v, hj => by
    rw [b_X12_bricks_112, if_pos (by omega), b_X12_bricks_119, if_pos (by omega), b_X12_bricks_132, if_pos (by omega), b_X12_bricks_133, w32_id (by omega) (by omega)]
    have h3 := lp_left x1 x2 x3 n (j + 1) (pm_up v 80 (j : Int).toNat (v 79 (j : Int).toNat)) (by omega)
    rw [show ((j + 1 : Nat) : Int) = (j : Int) + 1 by omega, pm_cp_step (by decide)] at h3
    exact h3
end OD
