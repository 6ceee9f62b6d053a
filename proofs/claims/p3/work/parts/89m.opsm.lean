/-! pace and meet keep the relation -/
section OM3
variable {L : Nat} {xs : Nat → Int} {d : Nat} {u v w : Nat → Nat → Int} {k n : Nat}
theorem opr_pace (h : rlR v) (q m k : Int) (hq3 : q < 2147483648) : opR L xs v nX11_pace nX12_pace 0 [(0, q), (0, m), (0, k)] := by
  have pL := rW_L h.1
  have pM := rM_L h.1
  by_cases hc : (0 ≤ q ∧ q / 100 < v 11 0 ∧ q % 100 < v 11 0) ∧ (0 ≤ m ∧ m ≤ 999) ∧ (0 ≤ k ∧ k ≤ 1)
  · obtain ⟨c1, c2, c3⟩ := hc
    have N : ∃ n : Nat, (n : Int) = m + 1 := ⟨(m + 1).toNat, by omega⟩
    obtain ⟨n, hn⟩ := N
    refine opR_no (r := if k = 0 then (pcN (v 11 0) (q / 100) (q % 100) n).1 else (pcN (v 11 0) (q / 100) (q % 100) n).2) h ?_ ?_
    · have l := lp_pace (L := L) (xs := xs) (d := 996) (v := v) (by omega) (by omega) q m k (by omega) (by omega) (by omega) hq3 (by omega) n 0 (by omega)
      have l' : qG L xs 999 CX11_pace 40 [(2, 0), (0, q), (0, m), (0, k), (0, 0), (0, -2), (0, 0)] [] (qS v) = qG L xs 999 CX11_pace 92 [(2, 0), (0, q), (0, m), (0, k), (0, (pcN (v 11 0) (q / 100) (q % 100) n).1), (0, (pcN (v 11 0) (q / 100) (q % 100) n).2), (0, m + 1)] [] (qS v) := by
        rw [show n = 0 + n by omega]
        exact l
      have r1 := c_areYards (L := L) (xs := xs) (d := 995) (v := v) (by omega) (by omega) q hq3
      rw [zb_t (by omega)] at r1
      by_cases hk : k = 0
      · simp (disch := omega) only [e_X11_pace, b_X11_pace_0, b_X11_pace_5, b_X11_pace_8, b_X11_pace_12, b_X11_pace_19, b_X11_pace_23, b_X11_pace_28, b_X11_pace_30, b_X11_pace_92, b_X11_pace_96, b_X11_pace_101, b_X11_pace_103, r1, l', if_pos hk, if_neg, qB_some, psh_some, psh_none, and_true, true_and, and_false, false_and, and_self, or_true, true_or, or_false, false_or, not_true_eq_false, not_false_eq_true, ↓reduceIte, Int.reduceEq, Int.reduceLT, Int.reduceLE, Int.reduceToNat, Nat.reduceEqDiff, Nat.reduceAdd]
      · simp (disch := omega) only [e_X11_pace, b_X11_pace_0, b_X11_pace_5, b_X11_pace_8, b_X11_pace_12, b_X11_pace_19, b_X11_pace_23, b_X11_pace_28, b_X11_pace_30, b_X11_pace_92, b_X11_pace_96, b_X11_pace_101, b_X11_pace_103, r1, l', if_neg hk, if_neg, qB_some, psh_some, psh_none, and_true, true_and, and_false, false_and, and_self, or_true, true_or, or_false, false_or, not_true_eq_false, not_false_eq_true, ↓reduceIte, Int.reduceEq, Int.reduceLT, Int.reduceLE, Int.reduceToNat, Nat.reduceEqDiff, Nat.reduceAdd]
    · have l := lp_mpace (L := L) (xs := xs) (d := 997) (v := v) (by omega) (by omega) q m k (by omega) (by omega) (by omega) hq3 (by omega) n 0 (by omega)
      rw [pM] at l
      have l' : qG L xs 999 CX12_pace 42 [(2, 63), (0, q), (0, m), (0, k), (0, 0), (0, -2), (0, 0)] [] (qS v) = qG L xs 999 CX12_pace 96 [(2, 63), (0, q), (0, m), (0, k), (0, (pcN (v 11 0) (q / 100) (q % 100) n).1), (0, (pcN (v 11 0) (q / 100) (q % 100) n).2), (0, m + 1)] [] (qS v) := by
        rw [show n = 0 + n by omega]
        exact l
      have r1 := m_areYards (L := L) (xs := xs) (d := 995) (v := v) (by omega) (by omega) q hq3
      rw [zb_t (by omega)] at r1
      by_cases hk : k = 0
      · simp (disch := omega) only [e_X12_pace, b_X12_pace_0, b_X12_pace_5, b_X12_pace_8, b_X12_pace_17, b_X12_pace_20, b_X12_pace_27, b_X12_pace_30, b_X12_pace_32, b_X12_pace_96, b_X12_pace_100, b_X12_pace_105, b_X12_pace_107, r1, c_within, zb_0, l', if_pos hk, if_pos, qB_some, psh_some, psh_none, and_true, true_and, and_false, false_and, and_self, or_true, true_or, or_false, false_or, not_true_eq_false, not_false_eq_true, ↓reduceIte, Int.reduceEq, Int.reduceLT, Int.reduceLE, Int.reduceToNat, Nat.reduceEqDiff, Nat.reduceAdd]
      · simp (disch := omega) only [e_X12_pace, b_X12_pace_0, b_X12_pace_5, b_X12_pace_8, b_X12_pace_17, b_X12_pace_20, b_X12_pace_27, b_X12_pace_30, b_X12_pace_32, b_X12_pace_96, b_X12_pace_100, b_X12_pace_105, b_X12_pace_107, r1, c_within, zb_0, l', if_neg hk, if_pos, qB_some, psh_some, psh_none, and_true, true_and, and_false, false_and, and_self, or_true, true_or, or_false, false_or, not_true_eq_false, not_false_eq_true, ↓reduceIte, Int.reduceEq, Int.reduceLT, Int.reduceLE, Int.reduceToNat, Nat.reduceEqDiff, Nat.reduceAdd]
  · refine opR_no (r := -1) h ?_ ?_
    · have r1 := c_areYards (L := L) (xs := xs) (d := 995) (v := v) (by omega) (by omega) q hq3
      by_cases c1 : 0 ≤ q ∧ q / 100 < v 11 0 ∧ q % 100 < v 11 0
      · rw [zb_t c1] at r1
        by_cases c2 : m < 0
        · simp (disch := omega) only [e_X11_pace, b_X11_pace_0, b_X11_pace_5, b_X11_pace_8, b_X11_pace_12, b_X11_pace_19, b_X11_pace_23, b_X11_pace_28, b_X11_pace_30, b_X11_pace_92, b_X11_pace_96, b_X11_pace_101, b_X11_pace_103, r1, if_pos, if_neg, qB_some, psh_some, psh_none, and_true, true_and, and_false, false_and, and_self, or_true, true_or, or_false, false_or, not_true_eq_false, not_false_eq_true, ↓reduceIte, Int.reduceEq, Int.reduceLT, Int.reduceLE, Int.reduceToNat, Nat.reduceEqDiff, Nat.reduceAdd]
        · by_cases c3 : 999 < m
          · simp (disch := omega) only [e_X11_pace, b_X11_pace_0, b_X11_pace_5, b_X11_pace_8, b_X11_pace_12, b_X11_pace_19, b_X11_pace_23, b_X11_pace_28, b_X11_pace_30, b_X11_pace_92, b_X11_pace_96, b_X11_pace_101, b_X11_pace_103, r1, if_pos, if_neg, qB_some, psh_some, psh_none, and_true, true_and, and_false, false_and, and_self, or_true, true_or, or_false, false_or, not_true_eq_false, not_false_eq_true, ↓reduceIte, Int.reduceEq, Int.reduceLT, Int.reduceLE, Int.reduceToNat, Nat.reduceEqDiff, Nat.reduceAdd]
          · by_cases c4 : k < 0
            · simp (disch := omega) only [e_X11_pace, b_X11_pace_0, b_X11_pace_5, b_X11_pace_8, b_X11_pace_12, b_X11_pace_19, b_X11_pace_23, b_X11_pace_28, b_X11_pace_30, b_X11_pace_92, b_X11_pace_96, b_X11_pace_101, b_X11_pace_103, r1, if_pos, if_neg, qB_some, psh_some, psh_none, and_true, true_and, and_false, false_and, and_self, or_true, true_or, or_false, false_or, not_true_eq_false, not_false_eq_true, ↓reduceIte, Int.reduceEq, Int.reduceLT, Int.reduceLE, Int.reduceToNat, Nat.reduceEqDiff, Nat.reduceAdd]
            · simp (disch := omega) only [e_X11_pace, b_X11_pace_0, b_X11_pace_5, b_X11_pace_8, b_X11_pace_12, b_X11_pace_19, b_X11_pace_23, b_X11_pace_28, b_X11_pace_30, b_X11_pace_92, b_X11_pace_96, b_X11_pace_101, b_X11_pace_103, r1, if_pos, if_neg, qB_some, psh_some, psh_none, and_true, true_and, and_false, false_and, and_self, or_true, true_or, or_false, false_or, not_true_eq_false, not_false_eq_true, ↓reduceIte, Int.reduceEq, Int.reduceLT, Int.reduceLE, Int.reduceToNat, Nat.reduceEqDiff, Nat.reduceAdd]
      · rw [zb_f c1] at r1
        simp (disch := omega) only [e_X11_pace, b_X11_pace_0, b_X11_pace_5, b_X11_pace_8, b_X11_pace_12, b_X11_pace_19, b_X11_pace_23, b_X11_pace_28, b_X11_pace_30, b_X11_pace_92, b_X11_pace_96, b_X11_pace_101, b_X11_pace_103, r1, qB_some, psh_some, psh_none, and_true, true_and, and_false, false_and, and_self, or_true, true_or, or_false, false_or, not_true_eq_false, not_false_eq_true, ↓reduceIte, Int.reduceEq, Int.reduceLT, Int.reduceLE, Int.reduceToNat, Nat.reduceEqDiff, Nat.reduceAdd]
    · have r1 := m_areYards (L := L) (xs := xs) (d := 995) (v := v) (by omega) (by omega) q hq3
      rw [pM] at r1
      by_cases c1 : 0 ≤ q ∧ q / 100 < v 11 0 ∧ q % 100 < v 11 0
      · rw [zb_t c1] at r1
        by_cases c2 : 0 ≤ m ∧ m ≤ 999
        · simp (disch := omega) only [e_X12_pace, b_X12_pace_0, b_X12_pace_5, b_X12_pace_8, b_X12_pace_17, b_X12_pace_20, b_X12_pace_27, b_X12_pace_30, b_X12_pace_32, b_X12_pace_96, b_X12_pace_100, b_X12_pace_105, b_X12_pace_107, r1, c_within, zb_0, if_pos, if_neg, qB_some, psh_some, psh_none, and_true, true_and, and_false, false_and, and_self, or_true, true_or, or_false, false_or, not_true_eq_false, not_false_eq_true, ↓reduceIte, Int.reduceEq, Int.reduceLT, Int.reduceLE, Int.reduceToNat, Nat.reduceEqDiff, Nat.reduceAdd]
        · simp (disch := omega) only [e_X12_pace, b_X12_pace_0, b_X12_pace_5, b_X12_pace_8, b_X12_pace_17, b_X12_pace_20, b_X12_pace_27, b_X12_pace_30, b_X12_pace_32, b_X12_pace_96, b_X12_pace_100, b_X12_pace_105, b_X12_pace_107, r1, c_within, zb_0, if_neg, qB_some, psh_some, psh_none, and_true, true_and, and_false, false_and, and_self, or_true, true_or, or_false, false_or, not_true_eq_false, not_false_eq_true, ↓reduceIte, Int.reduceEq, Int.reduceLT, Int.reduceLE, Int.reduceToNat, Nat.reduceEqDiff, Nat.reduceAdd]
      · rw [zb_f c1] at r1
        simp (disch := omega) only [e_X12_pace, b_X12_pace_0, b_X12_pace_5, b_X12_pace_8, b_X12_pace_17, b_X12_pace_20, b_X12_pace_27, b_X12_pace_30, b_X12_pace_32, b_X12_pace_96, b_X12_pace_100, b_X12_pace_105, b_X12_pace_107, r1, qB_some, psh_some, psh_none, and_true, true_and, and_false, false_and, and_self, or_true, true_or, or_false, false_or, not_true_eq_false, not_false_eq_true, ↓reduceIte, Int.reduceEq, Int.reduceLT, Int.reduceLE, Int.reduceToNat, Nat.reduceEqDiff, Nat.reduceAdd]
/-- is there an open hole in the yard y -/
def hoF (v : Nat → Nat → Int) (y : Int) : Nat → Nat → Int
  | 0, _ => 0
  | n + 1, j => if v 15 j = y ∧ v 6 j = 1 then 1 else hoF v y n (j + 1)
theorem hoF_01 (y : Int) : ∀ n j, hoF v y n j = 0 ∨ hoF v y n j = 1
  | 0, _ => Or.inl rfl
  | n + 1, j => by
    unfold hoF
    by_cases g : v 15 j = y ∧ v 6 j = 1
    · rw [if_pos g]
      exact Or.inr rfl
    · rw [if_neg g]
      exact hoF_01 y n (j + 1)
theorem lpr_hole (hW : WW v) (y : Int) (hy : 0 ≤ y ∧ y < v 11 0) : ∀ n j : Nat, (j : Int) + n = v 1 1 → qG L xs (d + 5) CX9_hasOpenHole 2 [(2, 1), (0, y), (0, (j : Int))] [] (qS v) = some (some (0, hoF v y n j), qS v)
  | 0, j, h => by
    rw [b_X9_hasOpenHole_2, if_neg (by omega), b_X9_hasOpenHole_37]
    rfl
  | n + 1, j, h => by
    have ih := lpr_hole hW y hy n (j + 1) (by omega)
    have hb := hW.2.1
    rw [show ((j + 1 : Nat) : Int) = (j : Int) + 1 by omega] at ih
    have e : ∀ y0 : Int, y0 = y → True := fun _ _ => trivial
    rw [b_X9_hasOpenHole_2, if_pos (by omega), b_X9_hasOpenHole_10, c_value_in 12 (j : Int) (by omega) (by omega) (by omega) (by rw [hm_12]; omega) (by omega), qB_some, psh_some, b_X9_hasOpenHole_17, Int.toNat_natCast, show v (3 + (12 : Int).toNat) j = v 15 j from rfl]
    unfold hoF
    by_cases g1 : v 15 j = y
    · rw [if_pos g1, b_X9_hasOpenHole_21, c_isHoleOpen hW j (by omega), qB_some, psh_some, b_X9_hasOpenHole_26, zb_0]
      by_cases g2 : v 6 j = 1
      · rw [if_pos ⟨g2, by omega, by omega⟩, if_pos ⟨g1, g2⟩, b_X9_hasOpenHole_29]
      · rw [if_neg (fun q => g2 q.1), if_neg (fun q => g2 q.2), b_X9_hasOpenHole_31, w32_id (by omega) (by omega)]
        exact ih
    · rw [if_neg g1, if_neg (fun q => g1 q.1), b_X9_hasOpenHole_31, w32_id (by omega) (by omega)]
      exact ih
theorem lpr_mhole (hW : WW v) (hC : CW v) (y : Int) : ∀ n j : Nat, (j : Int) + n = v 1 1 → qG L xs d CX12_isHoleIn 2 [(2, 63), (0, y), (0, (j : Int))] [] (qS v) = some (some (0, hoF v y n j), qS v)
  | 0, j, h => by
    have c6 := hC.1.2.1
    rw [b_X12_isHoleIn_2, if_neg (by omega), b_X12_isHoleIn_41]
    rfl
  | n + 1, j, h => by
    have ih := lpr_mhole hW hC y n (j + 1) (by omega)
    have hb := hW.2.1
    have c6 := hC.1.2.1
    obtain ⟨k1, k2, k3⟩ := hC.2.1 j (by omega)
    rw [show ((j + 1 : Nat) : Int) = (j : Int) + 1 by omega] at ih
    rw [b_X12_isHoleIn_2, if_pos (by omega), b_X12_isHoleIn_10, if_pos (by omega), Int.toNat_natCast, k1, b_X12_isHoleIn_16]
    unfold hoF
    by_cases g1 : v 15 j = y
    · rw [if_pos g1, b_X12_isHoleIn_20, w32_id (by omega) (by omega), if_pos (by omega), show (90 + (j : Int)).toNat = 90 + j by omega, k2, b_X12_isHoleIn_29]
      by_cases g2 : v 6 j = 1
      · rw [if_pos g2, if_pos ⟨g1, g2⟩, b_X12_isHoleIn_33]
      · rw [if_neg g2, if_neg (fun q => g2 q.2), b_X12_isHoleIn_35, w32_id (by omega) (by omega)]
        exact ih
    · rw [if_neg g1, if_neg (fun q => g1 q.1), b_X12_isHoleIn_35, w32_id (by omega) (by omega)]
      exact ih
theorem tri_in {Y t : Int} (hY : 2 ≤ Y) : 0 ≤ tri Y t ∧ tri Y t < Y := by
  have r1 := Int.emod_nonneg t (show 2 * (Y - 1) ≠ 0 by omega)
  have r2 := Int.emod_lt_of_pos t (show 0 < 2 * (Y - 1) by omega)
  unfold tri
  by_cases g : Y - 1 < t % (2 * (Y - 1))
  · rw [if_pos g]
    omega
  · rw [if_neg g]
    omega
/-- the first meeting in a hole, from the minute j on -/
def mtF (v : Nat → Nat → Int) (H : Nat) (a b : Int) : Nat → Nat → Int
  | 0, _ => -2
  | n + 1, j => if tri (v 11 0) (a + j) = tri (v 11 0) (2 * (v 11 0 - 1) - b + j) ∧ hoF v (tri (v 11 0) (a + j)) H 0 = 1 then (j : Int) else mtF v H a b n (j + 1)
theorem lpr_meet {H : Nat} (hW : WW v) (hH : v 1 1 = (H : Int)) (q : Int) (hq : 0 ≤ q ∧ q < 2147483648) (hq1 : q / 100 < v 11 0) (hq2 : q % 100 < v 11 0) : ∀ (n j : Nat), j + n = 1000 → ∀ z : pm_V, qG L xs (d + 6) CX11_meet 12 [(2, 0), (0, q), (0, (j : Int)), z] [] (qS v) = some (some (0, mtF v H (q / 100) (q % 100) n j), qS v)
  | 0, j, h, z => by
    rw [b_X11_meet_12, if_pos (by omega), b_X11_meet_61]
    rfl
  | n + 1, j, h, z => by
    have hL := hW.1
    have t1 := tri_in (t := q / 100 + j) hL.1
    have ih := lpr_meet hW hH q hq hq1 hq2 n (j + 1) (by omega) (0, tri (v 11 0) (q / 100 + j))
    rw [show ((j + 1 : Nat) : Int) = (j : Int) + 1 by omega] at ih
    rw [b_X11_meet_12, if_neg (by omega), b_X11_meet_19, td_pos 100 hq.1, w32_id (by omega) (by omega), c_up hL.1 hL.2 (q / 100) (j : Int) (by omega) (by omega) (by omega) (by omega), qB_some, psh_some, b_X11_meet_28, tm_pos 100 hq.1, c_down hL.1 hL.2 (q % 100) (j : Int) (by omega) hq2 (by omega) (by omega), qB_some, psh_some, b_X11_meet_39]
    unfold mtF
    by_cases g1 : tri (v 11 0) (q / 100 + j) = tri (v 11 0) (2 * (v 11 0 - 1) - q % 100 + j)
    · have e1 := lpr_hole (L := L) (xs := xs) (d := d) hW _ t1 H 0 (by omega)
      rw [if_pos g1, b_X11_meet_42, e_X9_hasOpenHole, b_X9_hasOpenHole_0]
      rw [show ((0 : Nat) : Int) = 0 from rfl] at e1
      rw [e1, qB_some, psh_some, b_X11_meet_50]
      rcases hoF_01 (v := v) (tri (v 11 0) (q / 100 + j)) H 0 with g2 | g2
      · rw [if_pos g2, if_neg (fun z => by omega), b_X11_meet_55, w32_id (by omega) (by omega)]
        exact ih
      · rw [if_neg (by omega), if_pos ⟨g1, g2⟩, b_X11_meet_53]
    · rw [if_neg g1, if_neg (fun z => g1 z.1), b_X11_meet_55, w32_id (by omega) (by omega)]
      exact ih
theorem lpr_mmeet {H : Nat} (hW : WW v) (hC : CW v) (hH : v 1 1 = (H : Int)) (q : Int) (hq : 0 ≤ q ∧ q < 2147483648) (hq1 : q / 100 < v 11 0) (hq2 : q % 100 < v 11 0) : ∀ (n j : Nat), j + n = 1000 → ∀ z : pm_V, qG L xs (d + 3) CX12_meet 12 [(2, 63), (0, q), (0, (j : Int)), z] [] (qS v) = some (some (0, mtF v H (q / 100) (q % 100) n j), qS v)
  | 0, j, h, z => by
    rw [b_X12_meet_12, if_pos (by omega), b_X12_meet_60]
    rfl
  | n + 1, j, h, z => by
    have hL := hW.1
    have hM := hC.1.1
    have t1 := tri_in (t := q / 100 + j) hL.1
    have ih := lpr_mmeet hW hC hH q hq hq1 hq2 n (j + 1) (by omega) (0, tri (v 11 0) (q / 100 + j))
    rw [show ((j + 1 : Nat) : Int) = (j : Int) + 1 by omega] at ih
    rw [b_X12_meet_12, if_neg (by omega), b_X12_meet_19, td_pos 100 hq.1, w32_id (by omega) (by omega), m_up (by omega) (by omega) (q / 100) (j : Int) (by omega) (by omega) (by omega) (by omega), qB_some, psh_some, b_X12_meet_29, tm_pos 100 hq.1, m_down (by omega) (by omega) (q % 100) (j : Int) (by omega) (by omega) (by omega) (by omega), qB_some, psh_some, b_X12_meet_41, hM]
    unfold mtF
    by_cases g1 : tri (v 11 0) (q / 100 + j) = tri (v 11 0) (2 * (v 11 0 - 1) - q % 100 + j)
    · have e1 := lpr_mhole (L := L) (xs := xs) (d := d + 2) hW hC (tri (v 11 0) (q / 100 + j)) H 0 (by omega)
      rw [if_pos g1, b_X12_meet_44, e_X12_isHoleIn, b_X12_isHoleIn_0]
      rw [show ((0 : Nat) : Int) = 0 from rfl] at e1
      rw [e1, qB_some, psh_some, b_X12_meet_49]
      rcases hoF_01 (v := v) (tri (v 11 0) (q / 100 + j)) H 0 with g2 | g2
      · rw [if_pos g2, if_neg (fun z => by omega), b_X12_meet_54, w32_id (by omega) (by omega)]
        exact ih
      · rw [if_neg (by omega), if_pos ⟨g1, g2⟩, b_X12_meet_52]
    · rw [if_neg g1, if_neg (fun z => g1 z.1), b_X12_meet_54, w32_id (by omega) (by omega)]
      exact ih
theorem opr_meet (h : rlR v) (q : Int) (hq3 : q < 2147483648) : opR L xs v nX11_meet nX12_meet 0 [(0, q)] := by
  have hW := rW_WW h.1
  have hC := rW_CW h.1
  have pL := rW_L h.1
  have pM := rM_L h.1
  have pH := h.1.1
  have r1 := c_areYards (L := L) (xs := xs) (d := 995) (v := v) (by omega) (by omega) q hq3
  have r2 := m_areYards (L := L) (xs := xs) (d := 995) (v := v) (by omega) (by omega) q hq3
  rw [pM] at r2
  obtain ⟨H, hH⟩ : ∃ H : Nat, v 1 1 = (H : Int) := ⟨(v 1 1).toNat, by omega⟩
  by_cases c1 : 0 ≤ q ∧ q / 100 < v 11 0 ∧ q % 100 < v 11 0
  · rw [zb_t c1] at r1 r2
    have l1 := lpr_meet (L := L) (xs := xs) (d := 993) hW hH q ⟨c1.1, hq3⟩ c1.2.1 c1.2.2 1000 0 (by omega) (9, 0)
    have l2 := lpr_mmeet (L := L) (xs := xs) (d := 996) hW hC hH q ⟨c1.1, hq3⟩ c1.2.1 c1.2.2 1000 0 (by omega) (9, 0)
    refine opR_no (r := mtF v H (q / 100) (q % 100) 1000 0) h ?_ ?_
    · rw [e_X11_meet, b_X11_meet_0, r1, qB_some, psh_some, b_X11_meet_5, if_neg (by decide), b_X11_meet_10]
      exact l1
    · rw [e_X12_meet, b_X12_meet_0, r2, qB_some, psh_some, b_X12_meet_5, if_neg (by decide), b_X12_meet_10]
      exact l2
  · rw [zb_f c1] at r1 r2
    refine opR_no (r := -1) h ?_ ?_
    · rw [e_X11_meet, b_X11_meet_0, r1, qB_some, psh_some, b_X11_meet_5, if_pos rfl, b_X11_meet_8]
    · rw [e_X12_meet, b_X12_meet_0, r2, qB_some, psh_some, b_X12_meet_5, if_pos rfl, b_X12_meet_8]
end OM3
