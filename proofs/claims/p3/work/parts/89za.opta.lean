/-! THE LAW as the reference reads it: two joined -/
section OTA
variable {L : Nat} {xs : Nat → Int} {d : Nat} {v : Nat → Nat → Int}
theorem mr_or (a w : Int) (u2 : pm_V) : qG L xs d CX12_either 18 [(2, 63), (0, a), u2] [(0, w)] (qS v) = qG L xs d CX12_either 5 [(2, 63), (0, jn 124 a w), (0, w)] [] (qS v) := by
  have e : jn 124 a w = if a ≠ 0 ∨ w ≠ 0 then 1 else 0 := rfl
  rw [e, b_X12_either_18]
  by_cases h : a = 0
  · rw [if_pos h, b_X12_either_23]
    by_cases h2 : w = 0
    · rw [if_pos h2, b_X12_either_31, b_X12_either_32, if_neg (by omega)]
    · rw [if_neg h2, b_X12_either_27, b_X12_either_32, if_pos (Or.inr h2)]
  · rw [if_neg h, b_X12_either_27, b_X12_either_32, if_pos (Or.inl h)]
theorem mr_and (a w : Int) (u2 : pm_V) : qG L xs d CX12_both 18 [(2, 63), (0, a), u2] [(0, w)] (qS v) = qG L xs d CX12_both 5 [(2, 63), (0, jn 38 a w), (0, w)] [] (qS v) := by
  have e : jn 38 a w = if a ≠ 0 ∧ w ≠ 0 then 1 else 0 := rfl
  rw [e, b_X12_both_18]
  by_cases h : a = 0
  · rw [if_pos h, b_X12_both_31, b_X12_both_32, if_neg (by omega)]
  · rw [if_neg h, b_X12_both_23]
    by_cases h2 : w = 0
    · rw [if_pos h2, b_X12_both_31, b_X12_both_32, if_neg (by omega)]
    · rw [if_neg h2, b_X12_both_27, b_X12_both_32, if_pos ⟨h, h2⟩]
theorem mr_cmp (c a w : Int) (hc : c = 60 ∨ c = 61 ∨ c = 62) : qG L xs d CX12_compared 51 [(2, 63), (0, a), (0, c), (9, 0)] [(0, w)] (qS v) = some (some (0, jn c a w), qS v) := by
  rw [b_X12_compared_51]
  rcases hc with rfl | rfl | rfl
  · have e : jn 60 a w = if a < w then 1 else 0 := rfl
    rw [e, if_pos rfl, b_X12_compared_58]
    by_cases h : a < w
    · rw [if_pos h, if_pos h, b_X12_compared_63, b_X12_compared_85, b_X12_compared_90]
    · rw [if_neg h, if_neg h, b_X12_compared_89, b_X12_compared_90]
  · have e : jn 61 a w = if a = w then 1 else 0 := rfl
    rw [e, if_neg (by decide), b_X12_compared_66, if_pos rfl, b_X12_compared_72]
    by_cases h : a = w
    · rw [if_pos h, if_pos h, b_X12_compared_77, b_X12_compared_85, b_X12_compared_90]
    · rw [if_neg h, if_neg h, b_X12_compared_89, b_X12_compared_90]
  · have e : jn 62 a w = if w < a then 1 else 0 := rfl
    rw [e, if_neg (by decide), b_X12_compared_66, if_neg (by decide), b_X12_compared_80]
    by_cases h : w < a
    · rw [if_pos h, if_pos h, b_X12_compared_85, b_X12_compared_90]
    · rw [if_neg h, if_neg h, b_X12_compared_89, b_X12_compared_90]
theorem mr_sum (c a w : Int) (hc : c = 43 ∨ c = 45) (u3 : pm_V) : qG L xs d CX12_sums 59 [(2, 63), (0, a), (0, if c = 43 then 1 else 0), u3] [(0, w)] (qS v) = qG L xs d CX12_sums 5 [(2, 63), (0, jn c a w), (0, if c = 43 then 1 else 0), (0, w)] [] (qS v) := by
  rcases hc with rfl | rfl
  · have e : jn 43 a w = w32 (a + w) := rfl
    rw [e, if_pos rfl, b_X12_sums_59, if_neg (by decide), b_X12_sums_64, b_X12_sums_73]
  · have e : jn 45 a w = w32 (a - w) := rfl
    rw [e, if_neg (by decide), b_X12_sums_59, if_pos rfl, b_X12_sums_70, b_X12_sums_73]
theorem mr_prod (c a w : Int) (hc : c = 42 ∨ c = 47 ∨ c = 37) (u3 : pm_V) : qG L xs d CX12_product 49 [(2, 63), (0, a), (0, c), u3] [(0, w)] (qS v) = qG L xs d CX12_product 85 [(2, 63), (0, a), (0, c), (0, w)] [(0, jn c a w)] (qS v) := by
  rw [b_X12_product_49]
  rcases hc with rfl | rfl | rfl
  · have e : jn 42 a w = w32 (a * w) := rfl
    rw [e, if_pos rfl, b_X12_product_56]
  · have e : jn 47 a w = if w = 0 then 0 else w32 (Int.tdiv a w) := rfl
    rw [e, if_neg (by decide), b_X12_product_62]
    by_cases h : w = 0
    · rw [if_pos h, if_pos h, b_X12_product_66]
    · rw [if_neg h, if_neg h, b_X12_product_70, if_pos rfl, b_X12_product_76, if_neg h, b_X12_product_79]
  · have e : jn 37 a w = if w = 0 then 0 else Int.tmod a w := rfl
    rw [e, if_neg (by decide), b_X12_product_62]
    by_cases h : w = 0
    · rw [if_pos h, if_pos h, b_X12_product_66]
    · rw [if_neg h, if_neg h, b_X12_product_70, if_neg (by decide), b_X12_product_82, if_neg h]
end OTA
