/-! CONTRACTS of Wall -/
section CW
variable {L : Nat} {xs : Nat → Int} {d : Nat} {v : Nat → Nat → Int}
def zb (c : Prop) [Decidable c] : Int := if c then 1 else 0
theorem zb_t {c : Prop} [Decidable c] (h : c) : zb c = 1 := if_pos h
theorem zb_f {c : Prop} [Decidable c] (h : ¬ c) : zb c = 0 := if_neg h
theorem zb_01 (c : Prop) [Decidable c] : zb c = 0 ∨ zb c = 1 := by
  by_cases h : c
  · exact Or.inr (zb_t h)
  · exact Or.inl (zb_f h)
/-- how many numbers of a sort there are -/
def hm (v : Nat → Nat → Int) (a : Int) : Int := if a = 0 ∨ a = 1 ∨ a = 2 then 30 else if a = 3 ∨ a = 4 ∨ a = 12 then v 1 1 else if a = 5 ∨ a = 6 ∨ a = 13 ∨ a = 14 then v 1 2 else if a = 7 then 2 else if a = 8 ∨ a = 9 ∨ a = 10 ∨ a = 11 then 1 else 0
theorem c_howMany (a : Int) : qE L xs (d + 1) nX9_howMany [(2, 1), (0, a)] (qS v) = some (some (0, hm v a), qS v) := by
  rw [e_X9_howMany]
  by_cases h : a < 0 ∨ 14 < a
  · rw [b_X9_howMany_0_o _ h, b_X9_howMany_93]
    unfold hm
    rw [if_neg (by omega), if_neg (by omega), if_neg (by omega), if_neg (by omega), if_neg (by omega)]
  · have h2 : a = 0 ∨ a = 1 ∨ a = 2 ∨ a = 3 ∨ a = 4 ∨ a = 5 ∨ a = 6 ∨ a = 7 ∨ a = 8 ∨ a = 9 ∨ a = 10 ∨ a = 11 ∨ a = 12 ∨ a = 13 ∨ a = 14 := by omega
    rcases h2 with rfl | rfl | rfl | rfl | rfl | rfl | rfl | rfl | rfl | rfl | rfl | rfl | rfl | rfl | rfl
    · rw [b_X9_howMany_0_v0 _ rfl, b_X9_howMany_76]; rfl
    · rw [b_X9_howMany_0_v1 _ rfl, b_X9_howMany_76]; rfl
    · rw [b_X9_howMany_0_v2 _ rfl, b_X9_howMany_76]; rfl
    · rw [b_X9_howMany_0_v3 _ rfl, b_X9_howMany_79]; rfl
    · rw [b_X9_howMany_0_v4 _ rfl, b_X9_howMany_79]; rfl
    · rw [b_X9_howMany_0_v5 _ rfl, b_X9_howMany_84]; rfl
    · rw [b_X9_howMany_0_v6 _ rfl, b_X9_howMany_84]; rfl
    · rw [b_X9_howMany_0_v7 _ rfl, b_X9_howMany_89]; rfl
    · rw [b_X9_howMany_0_v8 _ rfl, b_X9_howMany_91]; rfl
    · rw [b_X9_howMany_0_v9 _ rfl, b_X9_howMany_91]; rfl
    · rw [b_X9_howMany_0_v10 _ rfl, b_X9_howMany_91]; rfl
    · rw [b_X9_howMany_0_v11 _ rfl, b_X9_howMany_91]; rfl
    · rw [b_X9_howMany_0_v12 _ rfl, b_X9_howMany_79]; rfl
    · rw [b_X9_howMany_0_v13 _ rfl, b_X9_howMany_84]; rfl
    · rw [b_X9_howMany_0_v14 _ rfl, b_X9_howMany_84]; rfl
theorem c_has (a b : Int) : qE L xs (d + 2) nX9_has [(2, 1), (0, a), (0, b)] (qS v) = some (some (0, zb (0 ≤ b ∧ b < hm v a)), qS v) := by
  simp only [e_X9_has, b_X9_has_0, b_X9_has_4, b_X9_has_10, b_X9_has_13, b_X9_has_17, b_X9_has_18, c_howMany, qB_some, psh_some, or_true, true_or, ↓reduceIte]
  split
  · rw [zb_f (by omega)]
  · split
    · rw [zb_t (by omega)]
    · rw [zb_f (by omega)]
theorem c_yardsNow : qE L xs (d + 1) nX9_yardsNow [(2, 1)] (qS v) = some (some (0, v 11 0), qS v) := by
  rw [e_X9_yardsNow, b_X9_yardsNow_0]
theorem c_hasYard (a : Int) : qE L xs (d + 2) nX9_hasYard [(2, 1), (0, a)] (qS v) = some (some (0, zb (0 ≤ a ∧ a < v 11 0)), qS v) := by
  simp only [e_X9_hasYard, b_X9_hasYard_0, b_X9_hasYard_4, b_X9_hasYard_9, b_X9_hasYard_12, b_X9_hasYard_16, b_X9_hasYard_17, c_yardsNow, qB_some, psh_some, or_true, true_or, ↓reduceIte]
  split
  · rw [zb_f (by omega)]
  · split
    · rw [zb_t (by omega)]
    · rw [zb_f (by omega)]
theorem c_placesNow (h1 : 0 ≤ v 11 0) (h2 : v 11 0 ≤ 30) : qE L xs (d + 2) nX9_placesNow [(2, 1)] (qS v) = some (some (0, 2 * v 11 0), qS v) := by
  simp (disch := omega) only [e_X9_placesNow, b_X9_placesNow_0, b_X9_placesNow_5, c_yardsNow, qB_some, psh_some, w32_id]
theorem c_hasPlace (h1 : 0 ≤ v 11 0) (h2 : v 11 0 ≤ 30) (a : Int) : qE L xs (d + 3) nX9_hasPlace [(2, 1), (0, a)] (qS v) = some (some (0, zb (0 ≤ a ∧ a < 2 * v 11 0)), qS v) := by
  simp (disch := omega) only [e_X9_hasPlace, b_X9_hasPlace_0, b_X9_hasPlace_4, b_X9_hasPlace_9, b_X9_hasPlace_12, b_X9_hasPlace_16, b_X9_hasPlace_17, c_placesNow, qB_some, psh_some, or_true, true_or, ↓reduceIte]
  split
  · rw [zb_f (by omega)]
  · split
    · rw [zb_t (by omega)]
    · rw [zb_f (by omega)]
theorem c_value_in (a b : Int) (ha : 0 ≤ a) (ha2 : a < 15) (hb : 0 ≤ b) (hb2 : b < hm v a) (hb3 : b < 30) : qE L xs (d + 3) nX9_value [(2, 1), (0, a), (0, b)] (qS v) = some (some (0, v (3 + a.toNat) b.toNat), qS v) := by
  simp (disch := omega) only [e_X9_value, b_X9_value_0, b_X9_value_6, c_has, qB_some, psh_some, zb_t, b_X9_value_9, b_X9_value_14, b_X9_value_17, b_X9_value_21, ↓reduceIte, Int.reduceEq]
theorem c_set_in (a b z : Int) (ha : 0 ≤ a) (ha2 : a < 15) (hb : 0 ≤ b) (hb2 : b < hm v a) (hb3 : b < 30) : qE L xs (d + 3) nX9_set [(2, 1), (0, a), (0, b), (0, z)] (qS v) = some (none, qS (pm_up v (3 + a.toNat) b.toNat z)) := by
  simp (disch := omega) only [e_X9_set, b_X9_set_0, b_X9_set_6, c_has, qB_some, psh_some, zb_t, b_X9_set_9, b_X9_set_14, ↓reduceIte, Int.reduceEq]
end CW
