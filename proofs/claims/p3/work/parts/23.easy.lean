/-! CONTRACTS, easy ones: the program's class and the reference, call by call -/
section CE
variable {L : Nat} {xs : Nat → Int} {d : Nat} {v : Nat → Nat → Int} {a b c x y z : Int}
theorem hm_12 : hm v 12 = v 1 1 := rfl
theorem hm_13 : hm v 13 = v 1 2 := rfl
theorem hm_14 : hm v 14 = v 1 2 := rfl
theorem up_eq (μ : Nat → Nat → Int) (c k : Nat) (x : Int) : pm_up μ c k x c k = x := if_pos ⟨rfl, rfl⟩
theorem up_ne {μ : Nat → Nat → Int} {c k a i : Nat} {x : Int} (h : a ≠ c ∨ i ≠ k) : pm_up μ c k x a i = μ a i := if_neg (by omega)
theorem c_addHole (h0 : 0 ≤ v 1 1) (h1 : v 1 1 < 12) (a : Int) : qE L xs (d + 4) nX9_addHole [(2, 1), (0, a)] (qS v) = some (some (0, v 1 1), qS (pm_up (pm_up v 1 1 (v 1 1 + 1)) 15 (v 1 1).toNat a)) := by
  rw [e_X9_addHole, b_X9_addHole_0, if_pos h1, b_X9_addHole_9, b_X9_addHole_19, up_eq]
  simp (disch := omega) only [w32_id]
  rw [c_set_in 12 _ _ (by omega) (by omega) (by omega) (by rw [hm_12, up_eq]; omega) (by omega), qB_some, psh_none, b_X9_addHole_32, up_ne (by omega), up_eq, w32_id (by omega) (by omega), show v 1 1 + 1 - 1 = v 1 1 by omega]
  rfl
theorem c_hole_bad (h : ¬ (0 ≤ a ∧ a < v 11 0)) : qE L xs (d + 6) nX11_hole [(2, 0), (0, a)] (qS v) = some (some (0, -1), qS v) := by
  simp (disch := omega) only [e_X11_hole, b_X11_hole_0, b_X11_hole_8, b_X11_hole_11, b_X11_hole_13, b_X11_hole_25, b_X11_hole_30, b_X11_hole_38, c_hasYard, zb_f, qB_some, psh_some, psh_none, and_true, true_and, and_false, false_and, and_self, or_true, true_or, or_false, false_or, not_true_eq_false, not_false_eq_true, ↓reduceIte, Int.reduceEq, Int.reduceLT, Int.reduceLE, Int.reduceToNat, Nat.reduceEqDiff, Nat.reduceAdd]
theorem c_hole_full (h : 0 ≤ a ∧ a < v 11 0) (h1 : 12 ≤ v 1 1) : qE L xs (d + 6) nX11_hole [(2, 0), (0, a)] (qS v) = some (some (0, -3), qS v) := by
  simp (disch := omega) only [e_X11_hole, b_X11_hole_0, b_X11_hole_8, b_X11_hole_11, b_X11_hole_13, b_X11_hole_25, b_X11_hole_30, b_X11_hole_38, c_hasYard, zb_t, if_neg, qB_some, psh_some, psh_none, and_true, true_and, and_false, false_and, and_self, or_true, true_or, or_false, false_or, not_true_eq_false, not_false_eq_true, ↓reduceIte, Int.reduceEq, Int.reduceLT, Int.reduceLE, Int.reduceToNat, Nat.reduceEqDiff, Nat.reduceAdd]
theorem c_hole_ok (h : 0 ≤ a ∧ a < v 11 0) (h0 : 0 ≤ v 1 1) (h1 : v 1 1 < 12) : qE L xs (d + 6) nX11_hole [(2, 0), (0, a)] (qS v) = some (some (0, v 1 1), qS (pm_up (pm_up v 1 1 (v 1 1 + 1)) 15 (v 1 1).toNat a)) := by
  simp (disch := omega) only [e_X11_hole, b_X11_hole_0, b_X11_hole_8, b_X11_hole_11, b_X11_hole_13, b_X11_hole_25, b_X11_hole_30, b_X11_hole_38, c_hasYard, zb_t, if_pos, c_addHole, qB_some, psh_some, psh_none, and_true, true_and, and_false, false_and, and_self, or_true, true_or, or_false, false_or, not_true_eq_false, not_false_eq_true, ↓reduceIte, Int.reduceEq, Int.reduceLT, Int.reduceLE, Int.reduceToNat, Nat.reduceEqDiff, Nat.reduceAdd]
theorem lc_lt {α : Type} {A B : α} : (if (if y < x then (1 : Int) else if x = y then 0 else -1) < 0 then A else B) = if x < y then A else B := by
  by_cases h : y < x
  · rw [if_pos h, if_neg (by omega), if_neg (by omega)]
  · rw [if_neg h]
    by_cases h2 : x = y
    · rw [if_pos h2, if_neg (by omega), if_neg (by omega)]
    · rw [if_neg h2, if_pos (by omega), if_pos (by omega)]
theorem lc_gt {α : Type} {A B : α} : (if 0 < (if y < x then (1 : Int) else if x = y then 0 else -1) then A else B) = if y < x then A else B := by
  by_cases h : y < x
  · rw [if_pos h, if_pos (by omega), if_pos h]
  · rw [if_neg h, if_neg h]
    by_cases h2 : x = y
    · rw [if_pos h2, if_neg (by omega)]
    · rw [if_neg h2, if_neg (by omega)]
theorem lc_eq {α : Type} {A B : α} : (if (if y < x then (1 : Int) else if x = y then 0 else -1) = 0 then A else B) = if x = y then A else B := by
  by_cases h : y < x
  · rw [if_pos h, if_neg (by omega), if_neg (by omega)]
  · rw [if_neg h]
    by_cases h2 : x = y
    · rw [if_pos h2, if_pos rfl, if_pos h2]
    · rw [if_neg h2, if_neg (by omega), if_neg h2]
theorem zb_0 {α : Type} {A B : α} {p : Prop} [Decidable p] : (if zb p = 0 then A else B) = if p then B else A := by
  by_cases h : p
  · rw [zb_t h, if_neg (by omega), if_pos h]
  · rw [zb_f h, if_pos rfl, if_neg h]
theorem zb_r {α : Type} {A B : α} {p : Prop} [Decidable p] : (if zb p = 0 ∨ zb p = 1 then A else B) = A := if_pos (zb_01 p)
theorem zb_c {p q : Prop} [Decidable p] [Decidable q] (h : p ↔ q) : zb p = zb q := by
  by_cases hp : p
  · rw [zb_t hp, zb_t (h.mp hp)]
  · rw [zb_f hp, zb_f (fun hq => hp (h.mpr hq))]
theorem ret_zb {p q : Prop} [Decidable p] [Decidable q] {σ : pm_S} (h : p ↔ q) : (some (some (0, zb p), σ) : Option pm_R) = some (some (0, zb q), σ) := by rw [zb_c h]
theorem c_within (a b c : Int) : qE L xs (d + 1) nX12_within [(1, a), (1, b), (1, c)] (qS v) = some (some (0, zb (b ≤ a ∧ a ≤ c)), qS v) := by
  simp only [e_X12_within, b_X12_within_0, b_X12_within_6, b_X12_within_13, b_X12_within_17, b_X12_within_18, lc_lt, lc_gt, qB_some, psh_some, psh_none, and_true, true_and, and_false, false_and, and_self, or_true, true_or, or_false, false_or, not_true_eq_false, not_false_eq_true, ↓reduceIte, Int.reduceEq, Int.reduceLT, Int.reduceLE, Int.reduceToNat, Nat.reduceEqDiff, Nat.reduceAdd]
  by_cases h1 : a < b
  · rw [if_pos h1, zb_f (by omega)]
  · by_cases h2 : c < a
    · rw [if_neg h1, if_pos h2, zb_f (by omega)]
    · rw [if_neg h1, if_neg h2, zb_t (by omega)]
theorem c_yardMany : qE L xs (d + 1) nX12_yardMany [(2, 63)] (qS v) = some (some (0, v 64 140), qS v) := by
  simp only [e_X12_yardMany, b_X12_yardMany_0, qB_some, psh_some, psh_none, and_true, true_and, and_false, false_and, and_self, or_true, true_or, or_false, false_or, not_true_eq_false, not_false_eq_true, ↓reduceIte, Int.reduceEq, Int.reduceLT, Int.reduceLE, Int.reduceToNat, Nat.reduceEqDiff, Nat.reduceAdd]
theorem c_isYard (h1 : 0 ≤ v 64 140) (h2 : v 64 140 ≤ 30) (a : Int) : qE L xs (d + 2) nX12_isYard [(2, 63), (1, a)] (qS v) = some (some (0, zb (0 ≤ a ∧ a < v 64 140)), qS v) := by
  simp (disch := omega) only [e_X12_isYard, b_X12_isYard_0, b_X12_isYard_6, b_X12_isYard_12, c_yardMany, c_within, w32_id, zb_r, qB_some, psh_some, psh_none, and_true, true_and, and_false, false_and, and_self, or_true, true_or, or_false, false_or, not_true_eq_false, not_false_eq_true, ↓reduceIte, Int.reduceEq, Int.reduceLT, Int.reduceLE, Int.reduceToNat, Nat.reduceEqDiff, Nat.reduceAdd]
  exact ret_zb (by omega)
theorem c_isPlace (h1 : 0 ≤ v 64 140) (h2 : v 64 140 ≤ 30) (a : Int) : qE L xs (d + 2) nX12_isPlace [(2, 63), (1, a)] (qS v) = some (some (0, zb (0 ≤ a ∧ a < 2 * v 64 140)), qS v) := by
  simp (disch := omega) only [e_X12_isPlace, b_X12_isPlace_0, b_X12_isPlace_7, b_X12_isPlace_14, c_yardMany, c_within, w32_id, zb_r, qB_some, psh_some, psh_none, and_true, true_and, and_false, false_and, and_self, or_true, true_or, or_false, false_or, not_true_eq_false, not_false_eq_true, ↓reduceIte, Int.reduceEq, Int.reduceLT, Int.reduceLE, Int.reduceToNat, Nat.reduceEqDiff, Nat.reduceAdd]
  exact ret_zb (by omega)
end CE
