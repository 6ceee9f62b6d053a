/-! THE FIRST STATE's calls: meeting, taxes -/
section TX
variable {L : Nat} {xs : Nat → Int} {d : Nat} {v : Nat → Nat → Int} {a b c x y z : Int}
theorem lp_meet (h : Fresh v) (q : Int) (hq : 0 ≤ q) (hq1 : q / 100 < 12) (hq2 : q % 100 < 12) (hq3 : q < 2147483648) : ∀ (n j : Nat) (u : pm_V), j + n = 1000 → qG L xs (d + 3) CX11_meet 12 [(2, 0), (0, q), (0, (j : Int)), u] [] (qS v) = some (some (0, -2), qS v)
  | 0, j, u, hj => by
    rw [b_X11_meet_12, if_pos (by omega), b_X11_meet_61]
  | n + 1, j, u, hj => by
    have e := f_11_0 h
    have e2 := f_1_1 h
    have h3 := lp_meet h q hq hq1 hq2 hq3 n (j + 1) (0, tri (v 11 0) (q / 100 + j)) (by omega)
    rw [show ((j + 1 : Nat) : Int) = (j : Int) + 1 by omega] at h3
    have r1 : ∀ z : Int, qE L xs (d + 3) nX9_hasOpenHole [(2, 1), (0, z)] (qS v) = some (some (0, 0), qS v) := fun z => by
      simp (disch := omega) only [e_X9_hasOpenHole, b_X9_hasOpenHole_0, b_X9_hasOpenHole_2, b_X9_hasOpenHole_37, e2, if_neg, qB_some, psh_some, psh_none, and_true, true_and, and_false, false_and, and_self, or_true, true_or, or_false, false_or, not_true_eq_false, not_false_eq_true, ↓reduceIte, Int.reduceEq, Int.reduceLT, Int.reduceLE, Int.reduceToNat, Nat.reduceEqDiff, Nat.reduceAdd]
    refine Eq.trans ?_ h3
    by_cases he : tri (v 11 0) (q / 100 + j) = tri (v 11 0) (2 * (v 11 0 - 1) - q % 100 + j)
    · conv => lhs; simp (disch := omega) only [b_X11_meet_12, b_X11_meet_19, b_X11_meet_28, b_X11_meet_39, b_X11_meet_42, b_X11_meet_50, td_pos, tm_pos, w32_id, c_up, c_down, if_pos he, r1, if_neg, qB_some, psh_some, psh_none, and_true, true_and, and_false, false_and, and_self, or_true, true_or, or_false, false_or, not_true_eq_false, not_false_eq_true, ↓reduceIte, Int.reduceEq, Int.reduceLT, Int.reduceLE, Int.reduceToNat, Nat.reduceEqDiff, Nat.reduceAdd]
      rw [b_X11_meet_55, w32_id (by omega) (by omega)]
    · conv => lhs; simp (disch := omega) only [b_X11_meet_12, b_X11_meet_19, b_X11_meet_28, b_X11_meet_39, td_pos, tm_pos, w32_id, c_up, c_down, if_neg he, if_neg, qB_some, psh_some, psh_none, and_true, true_and, and_false, false_and, and_self, or_true, true_or, or_false, false_or, not_true_eq_false, not_false_eq_true, ↓reduceIte, Int.reduceEq, Int.reduceLT, Int.reduceLE, Int.reduceToNat, Nat.reduceEqDiff, Nat.reduceAdd]
      rw [b_X11_meet_55, w32_id (by omega) (by omega)]
theorem lp_mmeet (h : M0 v) (q : Int) (hq : 0 ≤ q) (hq1 : q / 100 < 12) (hq2 : q % 100 < 12) (hq3 : q < 2147483648) : ∀ (n j : Nat) (u : pm_V), j + n = 1000 → qG L xs (d + 2) CX12_meet 12 [(2, 63), (0, q), (0, (j : Int)), u] [] (qS v) = some (some (0, -2), qS v)
  | 0, j, u, hj => by
    rw [b_X12_meet_12, if_pos (by omega), b_X12_meet_60]
  | n + 1, j, u, hj => by
    have e := g_64_140 h
    have e2 := g_63_6 h
    have h3 := lp_mmeet h q hq hq1 hq2 hq3 n (j + 1) (0, tri (v 64 140) (q / 100 + j)) (by omega)
    rw [show ((j + 1 : Nat) : Int) = (j : Int) + 1 by omega] at h3
    have r1 : ∀ z : Int, qE L xs (d + 2) nX12_isHoleIn [(2, 63), (0, z)] (qS v) = some (some (0, 0), qS v) := fun z => by
      simp (disch := omega) only [e_X12_isHoleIn, b_X12_isHoleIn_0, b_X12_isHoleIn_2, b_X12_isHoleIn_41, e2, if_neg, qB_some, psh_some, psh_none, and_true, true_and, and_false, false_and, and_self, or_true, true_or, or_false, false_or, not_true_eq_false, not_false_eq_true, ↓reduceIte, Int.reduceEq, Int.reduceLT, Int.reduceLE, Int.reduceToNat, Nat.reduceEqDiff, Nat.reduceAdd]
    refine Eq.trans ?_ h3
    by_cases he : tri (v 64 140) (q / 100 + j) = tri (v 64 140) (2 * (v 64 140 - 1) - q % 100 + j)
    · conv => lhs; simp (disch := omega) only [b_X12_meet_12, b_X12_meet_19, b_X12_meet_29, b_X12_meet_41, b_X12_meet_44, b_X12_meet_49, td_pos, tm_pos, w32_id, m_up, m_down, if_pos he, r1, if_neg, qB_some, psh_some, psh_none, and_true, true_and, and_false, false_and, and_self, or_true, true_or, or_false, false_or, not_true_eq_false, not_false_eq_true, ↓reduceIte, Int.reduceEq, Int.reduceLT, Int.reduceLE, Int.reduceToNat, Nat.reduceEqDiff, Nat.reduceAdd]
      rw [b_X12_meet_54, w32_id (by omega) (by omega)]
    · conv => lhs; simp (disch := omega) only [b_X12_meet_12, b_X12_meet_19, b_X12_meet_29, b_X12_meet_41, td_pos, tm_pos, w32_id, m_up, m_down, if_neg he, if_neg, qB_some, psh_some, psh_none, and_true, true_and, and_false, false_and, and_self, or_true, true_or, or_false, false_or, not_true_eq_false, not_false_eq_true, ↓reduceIte, Int.reduceEq, Int.reduceLT, Int.reduceLE, Int.reduceToNat, Nat.reduceEqDiff, Nat.reduceAdd]
      rw [b_X12_meet_54, w32_id (by omega) (by omega)]
theorem op_14 (h : Fresh v) (q : Int) (hq3 : q < 2147483648) : pOK 6 xs v nX11_meet nX12_meet 0 [(0, q)] := by
  refine pok (r := if 0 ≤ q ∧ q / 100 < 12 ∧ q % 100 < 12 then -2 else -1) ⟨v, M0_of h, ?_⟩ (fun v h => ⟨v, ?_⟩)
  · have e := f_11_0 h
    have r1 := c_areYards (L := 6) (xs := xs) (d := 995) (v := v) (by omega) (by omega) q hq3
    rw [e] at r1
    by_cases c1 : 0 ≤ q ∧ q / 100 < 12 ∧ q % 100 < 12
    · rw [zb_t c1] at r1
      have l := lp_meet (L := 6) (xs := xs) (d := 996) h q (by omega) (by omega) (by omega) hq3 1000 0 (9, 0) (by omega)
      simp (disch := omega) only [e_X11_meet, b_X11_meet_0, b_X11_meet_5, b_X11_meet_10, r1, show qG 6 xs 999 CX11_meet 12 [(2, 0), (0, q), (0, 0), (9, 0)] [] (qS v) = some (some (0, -2), qS v) from l, if_pos c1, qB_some, psh_some, psh_none, and_true, true_and, and_false, false_and, and_self, or_true, true_or, or_false, false_or, not_true_eq_false, not_false_eq_true, ↓reduceIte, Int.reduceEq, Int.reduceLT, Int.reduceLE, Int.reduceToNat, Nat.reduceEqDiff, Nat.reduceAdd]
    · rw [zb_f c1] at r1
      simp (disch := omega) only [e_X11_meet, b_X11_meet_0, b_X11_meet_5, b_X11_meet_8, r1, if_neg c1, qB_some, psh_some, psh_none, and_true, true_and, and_false, false_and, and_self, or_true, true_or, or_false, false_or, not_true_eq_false, not_false_eq_true, ↓reduceIte, Int.reduceEq, Int.reduceLT, Int.reduceLE, Int.reduceToNat, Nat.reduceEqDiff, Nat.reduceAdd]
  · have e := g_64_140 h
    have r1 := m_areYards (L := 6) (xs := xs) (d := 995) (v := v) (by omega) (by omega) q hq3
    rw [e] at r1
    by_cases c1 : 0 ≤ q ∧ q / 100 < 12 ∧ q % 100 < 12
    · rw [zb_t c1] at r1
      have l := lp_mmeet (L := 6) (xs := xs) (d := 997) h q (by omega) (by omega) (by omega) hq3 1000 0 (9, 0) (by omega)
      simp (disch := omega) only [e_X12_meet, b_X12_meet_0, b_X12_meet_5, b_X12_meet_10, r1, show qG 6 xs 999 CX12_meet 12 [(2, 63), (0, q), (0, 0), (9, 0)] [] (qS v) = some (some (0, -2), qS v) from l, if_pos c1, qB_some, psh_some, psh_none, and_true, true_and, and_false, false_and, and_self, or_true, true_or, or_false, false_or, not_true_eq_false, not_false_eq_true, ↓reduceIte, Int.reduceEq, Int.reduceLT, Int.reduceLE, Int.reduceToNat, Nat.reduceEqDiff, Nat.reduceAdd]
    · rw [zb_f c1] at r1
      simp (disch := omega) only [e_X12_meet, b_X12_meet_0, b_X12_meet_5, b_X12_meet_8, r1, if_neg c1, qB_some, psh_some, psh_none, and_true, true_and, and_false, false_and, and_self, or_true, true_or, or_false, false_or, not_true_eq_false, not_false_eq_true, ↓reduceIte, Int.reduceEq, Int.reduceLT, Int.reduceLE, Int.reduceToNat, Nat.reduceEqDiff, Nat.reduceAdd]
theorem lp_tax (h : Fresh v) (o : Int) (ho : 0 ≤ o) : ∀ (n j : Nat), j + n = 12 → qG L xs (d + 3) CX11_tax 13 [(2, 0), (0, o), (0, 0), (0, (j : Int))] [] (qS v) = some (some (0, 0), qS v)
  | 0, j, hj => by
    rw [b_X11_tax_13, c_yardsNow, qB_some, psh_some, b_X11_tax_21, f_11_0 h, if_neg (by omega), b_X11_tax_73]
  | n + 1, j, hj => by
    have h3 := lp_tax h o ho n (j + 1) (by omega)
    rw [show ((j + 1 : Nat) : Int) = (j : Int) + 1 by omega] at h3
    rw [b_X11_tax_13, c_yardsNow, qB_some, psh_some, b_X11_tax_21, f_11_0 h, if_pos (by omega), b_X11_tax_24, c_value_in _ _ (by omega) (by omega) (by omega) (by rw [hm_2]; omega) (by omega), qB_some, psh_some, b_X11_tax_33, show 3 + (2 : Int).toNat = 5 from rfl, f_5_0_r h _ (by omega) (by omega), if_neg (by omega), b_X11_tax_67, w32_id (by omega) (by omega)]
    exact h3
theorem m_warmOf (h1 : 0 ≤ y) (h2 : y < 30) : qE L xs (d + 1) nX12_warmOf [(2, 63), (0, y)] (qS v) = some (some (0, v 64 (30 + y).toNat), qS v) := by
  simp (disch := omega) only [e_X12_warmOf, b_X12_warmOf_0, b_X12_warmOf_9, w32_id, if_pos, qB_some, psh_some, psh_none, and_true, true_and, and_false, false_and, and_self, or_true, true_or, or_false, false_or, not_true_eq_false, not_false_eq_true, ↓reduceIte, Int.reduceEq, Int.reduceLT, Int.reduceLE, Int.reduceToNat, Nat.reduceEqDiff, Nat.reduceAdd]
theorem m_ownerOf (h1 : 0 ≤ y) (h2 : y < 30) : qE L xs (d + 1) nX12_ownerOf [(2, 63), (0, y)] (qS v) = some (some (0, v 64 (60 + y).toNat), qS v) := by
  simp (disch := omega) only [e_X12_ownerOf, b_X12_ownerOf_0, b_X12_ownerOf_9, w32_id, if_pos, qB_some, psh_some, psh_none, and_true, true_and, and_false, false_and, and_self, or_true, true_or, or_false, false_or, not_true_eq_false, not_false_eq_true, ↓reduceIte, Int.reduceEq, Int.reduceLT, Int.reduceLE, Int.reduceToNat, Nat.reduceEqDiff, Nat.reduceAdd]
theorem m_thickOf (h1 : 0 ≤ y) (h2 : y < 30) : qE L xs (d + 1) nX12_thickOf [(2, 63), (0, y)] (qS v) = some (some (0, v 64 y.toNat), qS v) := by
  simp (disch := omega) only [e_X12_thickOf, b_X12_thickOf_0, b_X12_thickOf_6, w32_id, if_pos, qB_some, psh_some, psh_none, and_true, true_and, and_false, false_and, and_self, or_true, true_or, or_false, false_or, not_true_eq_false, not_false_eq_true, ↓reduceIte, Int.reduceEq, Int.reduceLT, Int.reduceLE, Int.reduceToNat, Nat.reduceEqDiff, Nat.reduceAdd]
theorem lp_mtax (h : M0 v) (o : Int) (ho : 0 ≤ o) : ∀ (n j : Nat) (u : pm_V), j + n = 12 → qG L xs (d + 3) CX12_tax 13 [(2, 63), (0, o), (0, 0), (0, (j : Int)), u] [] (qS v) = some (some (0, 0), qS v)
  | 0, j, u, hj => by
    rw [b_X12_tax_13, c_yardMany, qB_some, psh_some, b_X12_tax_18, g_64_140 h, if_neg (by omega), b_X12_tax_104, g_64_143 h]
    rfl
  | n + 1, j, u, hj => by
    have e := g_64_140 h
    have h3 : ∀ u, qG L xs (d + 3) CX12_tax 13 [(2, 63), (0, o), (0, 0), (0, (j : Int) + 1), u] [] (qS v) = some (some (0, 0), qS v) := fun u => by
      have h4 := lp_mtax h o ho n (j + 1) u (by omega)
      rw [show ((j + 1 : Nat) : Int) = (j : Int) + 1 by omega] at h4
      exact h4
    have h5 : ∀ z : Int, qG L xs (d + 3) CX12_tax 70 [(2, 63), (0, o), (0, 0), (0, (j : Int)), u] [(0, z)] (qS v) = some (some (0, 0), qS v) := fun z => by
      rw [b_X12_tax_70, m_ownerOf (by omega) (by omega), qB_some, psh_some, b_X12_tax_78, g_64_60_r h _ (by omega) (by omega), if_neg (by omega), b_X12_tax_82, b_X12_tax_96, w32_id (by omega) (by omega), w32_id (by omega) (by omega)]
      exact h3 _
    rw [b_X12_tax_13, c_yardMany, qB_some, psh_some, b_X12_tax_18, e, if_pos (by omega), b_X12_tax_21]
    by_cases hj0 : (j : Int) = 0
    · rw [if_pos hj0, b_X12_tax_40, c_yardMany, qB_some, psh_some, w32_id (by omega) (by omega), b_X12_tax_47, e, if_neg (by omega), b_X12_tax_50, m_warmOf (by omega) (by omega), qB_some, psh_some, b_X12_tax_55, w32_id (by omega) (by omega), m_warmOf (by omega) (by omega), qB_some, psh_some, b_X12_tax_62, g_64_30_r h _ (by omega) (by omega), g_64_30_r h _ (by omega) (by omega), if_neg (by omega), b_X12_tax_69]
      exact h5 _
    · rw [if_neg hj0, b_X12_tax_25, m_warmOf (by omega) (by omega), qB_some, psh_some, b_X12_tax_30, w32_id (by omega) (by omega), m_warmOf (by omega) (by omega), qB_some, psh_some, b_X12_tax_37, g_64_30_r h _ (by omega) (by omega), g_64_30_r h _ (by omega) (by omega), if_neg (by omega), b_X12_tax_69]
      exact h5 _
theorem op_20 (h : Fresh v) (o : Int) : pOK 6 xs v nX11_tax nX12_tax 0 [(0, o)] := by
  refine pok (r := if 0 ≤ o ∧ o < 6 then 0 else -1) ⟨v, M0_of h, ?_⟩ (fun v h => ⟨v, ?_⟩)
  · by_cases c1 : 0 ≤ o ∧ o < 6
    · have l := lp_tax (L := 6) (xs := xs) (d := 996) h o c1.1 12 0 (by omega)
      rw [if_pos c1, e_X11_tax, b_X11_tax_0, cd_hasOwner, qB_some, psh_some, b_X11_tax_4, zb_0, if_pos c1, b_X11_tax_9]
      exact l
    · rw [if_neg c1, e_X11_tax, b_X11_tax_0, cd_hasOwner, qB_some, psh_some, b_X11_tax_4, zb_0, if_neg c1, b_X11_tax_7]
  · by_cases c1 : 0 ≤ o ∧ o < 6
    · have l := lp_mtax (L := 6) (xs := xs) (d := 996) h o c1.1 12 0 (9, 0) (by omega)
      rw [if_pos c1, e_X12_tax, b_X12_tax_0, md_isOwner, qB_some, psh_some, b_X12_tax_4, zb_0, if_pos c1, b_X12_tax_9]
      exact l
    · rw [if_neg c1, e_X12_tax, b_X12_tax_0, md_isOwner, qB_some, psh_some, b_X12_tax_4, zb_0, if_neg c1, b_X12_tax_7]
end TX
