/-! JOINED: 89m.opsm, 89n.opsn, 89o.opso, 89p.opsp, 89q.opsq, 89r.opsr, 89s.opss, 89t.opst -/
section
/-! pace and meet keep the relation -/
section OM3
variable {L : Nat} {xs : Nat → Int} {d : Nat} {u v w : Nat → Nat → Int} {k n : Nat}
theorem opr_pace (h : rlR v) (q m k : Int) (hq3 : q < 2147483648) : opR L xs v nX11_pace nX12_pace 0 [(0, q), (0, m), (0, k)] := by
  have pL := rW_L h.1
  have pM := rM_L h.1
  by_cases hc : (0 ≤ q ∧ q / 100 < v 11 0 ∧ q % 100 < v 11 0) ∧ (0 ≤ m ∧ m ≤ 999) ∧ (0 ≤ k ∧ k ≤ 1)
  · obtain ⟨c1, c2, c3⟩ := hc
    have N : ∃ n : Nat, (n : Int) = m + 1 := ⟨(m + 1).toNat, by omega⟩
    obtain ⟨n, hn⟩ := N
    refine opR_no (r := if k = 0 then (pcN (v 11 0) (q / 100) (q % 100) n).1 else (pcN (v 11 0) (q / 100) (q % 100) n).2) h ?_ ?_
    · have l := lp_pace (L := L) (xs := xs) (d := 996) (v := v) (by omega) (by omega) q m k (by omega) (by omega) (by omega) hq3 (by omega) n 0 (by omega)
      have l' : qG L xs 999 CX11_pace 40 [(2, 0), (0, q), (0, m), (0, k), (0, 0), (0, -2), (0, 0)] [] (qS v) = qG L xs 999 CX11_pace 92 [(2, 0), (0, q), (0, m), (0, k), (0, (pcN (v 11 0) (q / 100) (q % 100) n).1), (0, (pcN (v 11 0) (q / 100) (q % 100) n).2), (0, m + 1)] [] (qS v) := by
        rw [show n = 0 + n by omega]
        exact l
      have r1 := c_areYards (L := L) (xs := xs) (d := 995) (v := v) (by omega) (by omega) q hq3
      rw [zb_t (by omega)] at r1
      by_cases hk : k = 0
      · simp (disch := omega) only [e_X11_pace, b_X11_pace_0, b_X11_pace_5, b_X11_pace_8, b_X11_pace_12, b_X11_pace_19, b_X11_pace_23, b_X11_pace_28, b_X11_pace_30, b_X11_pace_92, b_X11_pace_96, b_X11_pace_101, b_X11_pace_103, r1, l', if_pos hk, if_neg, qB_some, psh_some, psh_none, and_true, true_and, and_false, false_and, and_self, or_true, true_or, or_false, false_or, not_true_eq_false, not_false_eq_true, ↓reduceIte, Int.reduceEq, Int.reduceLT, Int.reduceLE, Int.reduceToNat, Nat.reduceEqDiff, Nat.reduceAdd]
      · simp (disch := omega) only [e_X11_pace, b_X11_pace_0, b_X11_pace_5, b_X11_pace_8, b_X11_pace_12, b_X11_pace_19, b_X11_pace_23, b_X11_pace_28, b_X11_pace_30, b_X11_pace_92, b_X11_pace_96, b_X11_pace_101, b_X11_pace_103, r1, l', if_neg hk, if_neg, qB_some, psh_some, psh_none, and_true, true_and, and_false, false_and, and_self, or_true, true_or, or_false, false_or, not_true_eq_false, not_false_eq_true, ↓reduceIte, Int.reduceEq, Int.reduceLT, Int.reduceLE, Int.reduceToNat, Nat.reduceEqDiff, Nat.reduceAdd]
    · have l := lp_mpace (L := L) (xs := xs) (d := 997) (v := v) (by omega) (by omega) q m k (by omega) (by omega) (by omega) hq3 (by omega) n 0 (by omega)
      rw [pM] at l
      have l' : qG L xs 999 CX12_pace 42 [(2, 63), (0, q), (0, m), (0, k), (0, 0), (0, -2), (0, 0)] [] (qS v) = qG L xs 999 CX12_pace 96 [(2, 63), (0, q), (0, m), (0, k), (0, (pcN (v 11 0) (q / 100) (q % 100) n).1), (0, (pcN (v 11 0) (q / 100) (q % 100) n).2), (0, m + 1)] [] (qS v) := by
        rw [show n = 0 + n by omega]
        exact l
      have r1 := m_areYards (L := L) (xs := xs) (d := 995) (v := v) (by omega) (by omega) q hq3
      rw [zb_t (by omega)] at r1
      by_cases hk : k = 0
      · simp (disch := omega) only [e_X12_pace, b_X12_pace_0, b_X12_pace_5, b_X12_pace_8, b_X12_pace_17, b_X12_pace_20, b_X12_pace_27, b_X12_pace_30, b_X12_pace_32, b_X12_pace_96, b_X12_pace_100, b_X12_pace_105, b_X12_pace_107, r1, c_within, zb_0, l', if_pos hk, if_pos, qB_some, psh_some, psh_none, and_true, true_and, and_false, false_and, and_self, or_true, true_or, or_false, false_or, not_true_eq_false, not_false_eq_true, ↓reduceIte, Int.reduceEq, Int.reduceLT, Int.reduceLE, Int.reduceToNat, Nat.reduceEqDiff, Nat.reduceAdd]
      · simp (disch := omega) only [e_X12_pace, b_X12_pace_0, b_X12_pace_5, b_X12_pace_8, b_X12_pace_17, b_X12_pace_20, b_X12_pace_27, b_X12_pace_30, b_X12_pace_32, b_X12_pace_96, b_X12_pace_100, b_X12_pace_105, b_X12_pace_107, r1, c_within, zb_0, l', if_neg hk, if_pos, qB_some, psh_some, psh_none, and_true, true_and, and_false, false_and, and_self, or_true, true_or, or_false, false_or, not_true_eq_false, not_false_eq_true, ↓reduceIte, Int.reduceEq, Int.reduceLT, Int.reduceLE, Int.reduceToNat, Nat.reduceEqDiff, Nat.reduceAdd]
  · refine opR_no (r := -1) h ?_ ?_
    · have r1 := c_areYards (L := L) (xs := xs) (d := 995) (v := v) (by omega) (by omega) q hq3
      by_cases c1 : 0 ≤ q ∧ q / 100 < v 11 0 ∧ q % 100 < v 11 0
      · rw [zb_t c1] at r1
        by_cases c2 : m < 0
        · simp (disch := omega) only [e_X11_pace, b_X11_pace_0, b_X11_pace_5, b_X11_pace_8, b_X11_pace_12, b_X11_pace_19, b_X11_pace_23, b_X11_pace_28, b_X11_pace_30, b_X11_pace_92, b_X11_pace_96, b_X11_pace_101, b_X11_pace_103, r1, if_pos, if_neg, qB_some, psh_some, psh_none, and_true, true_and, and_false, false_and, and_self, or_true, true_or, or_false, false_or, not_true_eq_false, not_false_eq_true, ↓reduceIte, Int.reduceEq, Int.reduceLT, Int.reduceLE, Int.reduceToNat, Nat.reduceEqDiff, Nat.reduceAdd]
        · by_cases c3 : 999 < m
          · simp (disch := omega) only [e_X11_pace, b_X11_pace_0, b_X11_pace_5, b_X11_pace_8, b_X11_pace_12, b_X11_pace_19, b_X11_pace_23, b_X11_pace_28, b_X11_pace_30, b_X11_pace_92, b_X11_pace_96, b_X11_pace_101, b_X11_pace_103, r1, if_pos, if_neg, qB_some, psh_some, psh_none, and_true, true_and, and_false, false_and, and_self, or_true, true_or, or_false, false_or, not_true_eq_false, not_false_eq_true, ↓reduceIte, Int.reduceEq, Int.reduceLT, Int.reduceLE, Int.reduceToNat, Nat.reduceEqDiff, Nat.reduceAdd]
          · by_cases c4 : k < 0
            · simp (disch := omega) only [e_X11_pace, b_X11_pace_0, b_X11_pace_5, b_X11_pace_8, b_X11_pace_12, b_X11_pace_19, b_X11_pace_23, b_X11_pace_28, b_X11_pace_30, b_X11_pace_92, b_X11_pace_96, b_X11_pace_101, b_X11_pace_103, r1, if_pos, if_neg, qB_some, psh_some, psh_none, and_true, true_and, and_false, false_and, and_self, or_true, true_or, or_false, false_or, not_true_eq_false, not_false_eq_true, ↓reduceIte, Int.reduceEq, Int.reduceLT, Int.reduceLE, Int.reduceToNat, Nat.reduceEqDiff, Nat.reduceAdd]
            · simp (disch := omega) only [e_X11_pace, b_X11_pace_0, b_X11_pace_5, b_X11_pace_8, b_X11_pace_12, b_X11_pace_19, b_X11_pace_23, b_X11_pace_28, b_X11_pace_30, b_X11_pace_92, b_X11_pace_96, b_X11_pace_101, b_X11_pace_103, r1, if_pos, if_neg, qB_some, psh_some, psh_none, and_true, true_and, and_false, false_and, and_self, or_true, true_or, or_false, false_or, not_true_eq_false, not_false_eq_true, ↓reduceIte, Int.reduceEq, Int.reduceLT, Int.reduceLE, Int.reduceToNat, Nat.reduceEqDiff, Nat.reduceAdd]
      · rw [zb_f c1] at r1
        simp (disch := omega) only [e_X11_pace, b_X11_pace_0, b_X11_pace_5, b_X11_pace_8, b_X11_pace_12, b_X11_pace_19, b_X11_pace_23, b_X11_pace_28, b_X11_pace_30, b_X11_pace_92, b_X11_pace_96, b_X11_pace_101, b_X11_pace_103, r1, qB_some, psh_some, psh_none, and_true, true_and, and_false, false_and, and_self, or_true, true_or, or_false, false_or, not_true_eq_false, not_false_eq_true, ↓reduceIte, Int.reduceEq, Int.reduceLT, Int.reduceLE, Int.reduceToNat, Nat.reduceEqDiff, Nat.reduceAdd]
    · have r1 := m_areYards (L := L) (xs := xs) (d := 995) (v := v) (by omega) (by omega) q hq3
      rw [pM] at r1
      by_cases c1 : 0 ≤ q ∧ q / 100 < v 11 0 ∧ q % 100 < v 11 0
      · rw [zb_t c1] at r1
        by_cases c2 : 0 ≤ m ∧ m ≤ 999
        · simp (disch := omega) only [e_X12_pace, b_X12_pace_0, b_X12_pace_5, b_X12_pace_8, b_X12_pace_17, b_X12_pace_20, b_X12_pace_27, b_X12_pace_30, b_X12_pace_32, b_X12_pace_96, b_X12_pace_100, b_X12_pace_105, b_X12_pace_107, r1, c_within, zb_0, if_pos, if_neg, qB_some, psh_some, psh_none, and_true, true_and, and_false, false_and, and_self, or_true, true_or, or_false, false_or, not_true_eq_false, not_false_eq_true, ↓reduceIte, Int.reduceEq, Int.reduceLT, Int.reduceLE, Int.reduceToNat, Nat.reduceEqDiff, Nat.reduceAdd]
        · simp (disch := omega) only [e_X12_pace, b_X12_pace_0, b_X12_pace_5, b_X12_pace_8, b_X12_pace_17, b_X12_pace_20, b_X12_pace_27, b_X12_pace_30, b_X12_pace_32, b_X12_pace_96, b_X12_pace_100, b_X12_pace_105, b_X12_pace_107, r1, c_within, zb_0, if_neg, qB_some, psh_some, psh_none, and_true, true_and, and_false, false_and, and_self, or_true, true_or, or_false, false_or, not_true_eq_false, not_false_eq_true, ↓reduceIte, Int.reduceEq, Int.reduceLT, Int.reduceLE, Int.reduceToNat, Nat.reduceEqDiff, Nat.reduceAdd]
      · rw [zb_f c1] at r1
        simp (disch := omega) only [e_X12_pace, b_X12_pace_0, b_X12_pace_5, b_X12_pace_8, b_X12_pace_17, b_X12_pace_20, b_X12_pace_27, b_X12_pace_30, b_X12_pace_32, b_X12_pace_96, b_X12_pace_100, b_X12_pace_105, b_X12_pace_107, r1, qB_some, psh_some, psh_none, and_true, true_and, and_false, false_and, and_self, or_true, true_or, or_false, false_or, not_true_eq_false, not_false_eq_true, ↓reduceIte, Int.reduceEq, Int.reduceLT, Int.reduceLE, Int.reduceToNat, Nat.reduceEqDiff, Nat.reduceAdd]
/-- is there an open hole in the yard y -/
def hoF (v : Nat → Nat → Int) (y : Int) : Nat → Nat → Int
  | 0, _ => 0
  | n + 1, j => if v 15 j = y ∧ v 6 j = 1 then 1 else hoF v y n (j + 1)
theorem hoF_01 (y : Int) : ∀ n j, hoF v y n j = 0 ∨ hoF v y n j = 1
  | 0, _ => Or.inl rfl
  | n + 1, j => by
    unfold hoF
    by_cases g : v 15 j = y ∧ v 6 j = 1
    · rw [if_pos g]
      exact Or.inr rfl
    · rw [if_neg g]
      exact hoF_01 y n (j + 1)
theorem lpr_hole (hW : WW v) (y : Int) (hy : 0 ≤ y ∧ y < v 11 0) : ∀ n j : Nat, (j : Int) + n = v 1 1 → qG L xs (d + 5) CX9_hasOpenHole 2 [(2, 1), (0, y), (0, (j : Int))] [] (qS v) = some (some (0, hoF v y n j), qS v)
  | 0, j, h => by
    rw [b_X9_hasOpenHole_2, if_neg (by omega), b_X9_hasOpenHole_37]
    rfl
  | n + 1, j, h => by
    have ih := lpr_hole hW y hy n (j + 1) (by omega)
    have hb := hW.2.1
    rw [show ((j + 1 : Nat) : Int) = (j : Int) + 1 by omega] at ih
    have e : ∀ y0 : Int, y0 = y → True := fun _ _ => trivial
    rw [b_X9_hasOpenHole_2, if_pos (by omega), b_X9_hasOpenHole_10, c_value_in 12 (j : Int) (by omega) (by omega) (by omega) (by rw [hm_12]; omega) (by omega), qB_some, psh_some, b_X9_hasOpenHole_17, Int.toNat_natCast, show v (3 + (12 : Int).toNat) j = v 15 j from rfl]
    unfold hoF
    by_cases g1 : v 15 j = y
    · rw [if_pos g1, b_X9_hasOpenHole_21, c_isHoleOpen hW j (by omega), qB_some, psh_some, b_X9_hasOpenHole_26, zb_0]
      by_cases g2 : v 6 j = 1
      · rw [if_pos ⟨g2, by omega, by omega⟩, if_pos ⟨g1, g2⟩, b_X9_hasOpenHole_29]
      · rw [if_neg (fun q => g2 q.1), if_neg (fun q => g2 q.2), b_X9_hasOpenHole_31, w32_id (by omega) (by omega)]
        exact ih
    · rw [if_neg g1, if_neg (fun q => g1 q.1), b_X9_hasOpenHole_31, w32_id (by omega) (by omega)]
      exact ih
theorem lpr_mhole (hW : WW v) (hC : CW v) (y : Int) : ∀ n j : Nat, (j : Int) + n = v 1 1 → qG L xs d CX12_isHoleIn 2 [(2, 63), (0, y), (0, (j : Int))] [] (qS v) = some (some (0, hoF v y n j), qS v)
  | 0, j, h => by
    have c6 := hC.1.2.1
    rw [b_X12_isHoleIn_2, if_neg (by omega), b_X12_isHoleIn_41]
    rfl
  | n + 1, j, h => by
    have ih := lpr_mhole hW hC y n (j + 1) (by omega)
    have hb := hW.2.1
    have c6 := hC.1.2.1
    obtain ⟨k1, k2, k3⟩ := hC.2.1 j (by omega)
    rw [show ((j + 1 : Nat) : Int) = (j : Int) + 1 by omega] at ih
    rw [b_X12_isHoleIn_2, if_pos (by omega), b_X12_isHoleIn_10, if_pos (by omega), Int.toNat_natCast, k1, b_X12_isHoleIn_16]
    unfold hoF
    by_cases g1 : v 15 j = y
    · rw [if_pos g1, b_X12_isHoleIn_20, w32_id (by omega) (by omega), if_pos (by omega), show (90 + (j : Int)).toNat = 90 + j by omega, k2, b_X12_isHoleIn_29]
      by_cases g2 : v 6 j = 1
      · rw [if_pos g2, if_pos ⟨g1, g2⟩, b_X12_isHoleIn_33]
      · rw [if_neg g2, if_neg (fun q => g2 q.2), b_X12_isHoleIn_35, w32_id (by omega) (by omega)]
        exact ih
    · rw [if_neg g1, if_neg (fun q => g1 q.1), b_X12_isHoleIn_35, w32_id (by omega) (by omega)]
      exact ih
theorem tri_in {Y t : Int} (hY : 2 ≤ Y) : 0 ≤ tri Y t ∧ tri Y t < Y := by
  have r1 := Int.emod_nonneg t (show 2 * (Y - 1) ≠ 0 by omega)
  have r2 := Int.emod_lt_of_pos t (show 0 < 2 * (Y - 1) by omega)
  unfold tri
  by_cases g : Y - 1 < t % (2 * (Y - 1))
  · rw [if_pos g]
    omega
  · rw [if_neg g]
    omega
/-- the first meeting in a hole, from the minute j on -/
def mtF (v : Nat → Nat → Int) (H : Nat) (a b : Int) : Nat → Nat → Int
  | 0, _ => -2
  | n + 1, j => if tri (v 11 0) (a + j) = tri (v 11 0) (2 * (v 11 0 - 1) - b + j) ∧ hoF v (tri (v 11 0) (a + j)) H 0 = 1 then (j : Int) else mtF v H a b n (j + 1)
theorem lpr_meet {H : Nat} (hW : WW v) (hH : v 1 1 = (H : Int)) (q : Int) (hq : 0 ≤ q ∧ q < 2147483648) (hq1 : q / 100 < v 11 0) (hq2 : q % 100 < v 11 0) : ∀ (n j : Nat), j + n = 1000 → ∀ z : pm_V, qG L xs (d + 6) CX11_meet 12 [(2, 0), (0, q), (0, (j : Int)), z] [] (qS v) = some (some (0, mtF v H (q / 100) (q % 100) n j), qS v)
  | 0, j, h, z => by
    rw [b_X11_meet_12, if_pos (by omega), b_X11_meet_61]
    rfl
  | n + 1, j, h, z => by
    have hL := hW.1
    have t1 := tri_in (t := q / 100 + j) hL.1
    have ih := lpr_meet hW hH q hq hq1 hq2 n (j + 1) (by omega) (0, tri (v 11 0) (q / 100 + j))
    rw [show ((j + 1 : Nat) : Int) = (j : Int) + 1 by omega] at ih
    rw [b_X11_meet_12, if_neg (by omega), b_X11_meet_19, td_pos 100 hq.1, w32_id (by omega) (by omega), c_up hL.1 hL.2 (q / 100) (j : Int) (by omega) (by omega) (by omega) (by omega), qB_some, psh_some, b_X11_meet_28, tm_pos 100 hq.1, c_down hL.1 hL.2 (q % 100) (j : Int) (by omega) hq2 (by omega) (by omega), qB_some, psh_some, b_X11_meet_39]
    unfold mtF
    by_cases g1 : tri (v 11 0) (q / 100 + j) = tri (v 11 0) (2 * (v 11 0 - 1) - q % 100 + j)
    · have e1 := lpr_hole (L := L) (xs := xs) (d := d) hW _ t1 H 0 (by omega)
      rw [if_pos g1, b_X11_meet_42, e_X9_hasOpenHole, b_X9_hasOpenHole_0]
      rw [show ((0 : Nat) : Int) = 0 from rfl] at e1
      rw [e1, qB_some, psh_some, b_X11_meet_50]
      rcases hoF_01 (v := v) (tri (v 11 0) (q / 100 + j)) H 0 with g2 | g2
      · rw [if_pos g2, if_neg (fun z => by omega), b_X11_meet_55, w32_id (by omega) (by omega)]
        exact ih
      · rw [if_neg (by omega), if_pos ⟨g1, g2⟩, b_X11_meet_53]
    · rw [if_neg g1, if_neg (fun z => g1 z.1), b_X11_meet_55, w32_id (by omega) (by omega)]
      exact ih
theorem lpr_mmeet {H : Nat} (hW : WW v) (hC : CW v) (hH : v 1 1 = (H : Int)) (q : Int) (hq : 0 ≤ q ∧ q < 2147483648) (hq1 : q / 100 < v 11 0) (hq2 : q % 100 < v 11 0) : ∀ (n j : Nat), j + n = 1000 → ∀ z : pm_V, qG L xs (d + 3) CX12_meet 12 [(2, 63), (0, q), (0, (j : Int)), z] [] (qS v) = some (some (0, mtF v H (q / 100) (q % 100) n j), qS v)
  | 0, j, h, z => by
    rw [b_X12_meet_12, if_pos (by omega), b_X12_meet_60]
    rfl
  | n + 1, j, h, z => by
    have hL := hW.1
    have hM := hC.1.1
    have t1 := tri_in (t := q / 100 + j) hL.1
    have ih := lpr_mmeet hW hC hH q hq hq1 hq2 n (j + 1) (by omega) (0, tri (v 11 0) (q / 100 + j))
    rw [show ((j + 1 : Nat) : Int) = (j : Int) + 1 by omega] at ih
    rw [b_X12_meet_12, if_neg (by omega), b_X12_meet_19, td_pos 100 hq.1, w32_id (by omega) (by omega), m_up (by omega) (by omega) (q / 100) (j : Int) (by omega) (by omega) (by omega) (by omega), qB_some, psh_some, b_X12_meet_29, tm_pos 100 hq.1, m_down (by omega) (by omega) (q % 100) (j : Int) (by omega) (by omega) (by omega) (by omega), qB_some, psh_some, b_X12_meet_41, hM]
    unfold mtF
    by_cases g1 : tri (v 11 0) (q / 100 + j) = tri (v 11 0) (2 * (v 11 0 - 1) - q % 100 + j)
    · have e1 := lpr_mhole (L := L) (xs := xs) (d := d + 2) hW hC (tri (v 11 0) (q / 100 + j)) H 0 (by omega)
      rw [if_pos g1, b_X12_meet_44, e_X12_isHoleIn, b_X12_isHoleIn_0]
      rw [show ((0 : Nat) : Int) = 0 from rfl] at e1
      rw [e1, qB_some, psh_some, b_X12_meet_49]
      rcases hoF_01 (v := v) (tri (v 11 0) (q / 100 + j)) H 0 with g2 | g2
      · rw [if_pos g2, if_neg (fun z => by omega), b_X12_meet_54, w32_id (by omega) (by omega)]
        exact ih
      · rw [if_neg (by omega), if_pos ⟨g1, g2⟩, b_X12_meet_52]
    · rw [if_neg g1, if_neg (fun z => g1 z.1), b_X12_meet_54, w32_id (by omega) (by omega)]
      exact ih
theorem opr_meet (h : rlR v) (q : Int) (hq3 : q < 2147483648) : opR L xs v nX11_meet nX12_meet 0 [(0, q)] := by
  have hW := rW_WW h.1
  have hC := rW_CW h.1
  have pL := rW_L h.1
  have pM := rM_L h.1
  have pH := h.1.1
  have r1 := c_areYards (L := L) (xs := xs) (d := 995) (v := v) (by omega) (by omega) q hq3
  have r2 := m_areYards (L := L) (xs := xs) (d := 995) (v := v) (by omega) (by omega) q hq3
  rw [pM] at r2
  obtain ⟨H, hH⟩ : ∃ H : Nat, v 1 1 = (H : Int) := ⟨(v 1 1).toNat, by omega⟩
  by_cases c1 : 0 ≤ q ∧ q / 100 < v 11 0 ∧ q % 100 < v 11 0
  · rw [zb_t c1] at r1 r2
    have l1 := lpr_meet (L := L) (xs := xs) (d := 993) hW hH q ⟨c1.1, hq3⟩ c1.2.1 c1.2.2 1000 0 (by omega) (9, 0)
    have l2 := lpr_mmeet (L := L) (xs := xs) (d := 996) hW hC hH q ⟨c1.1, hq3⟩ c1.2.1 c1.2.2 1000 0 (by omega) (9, 0)
    refine opR_no (r := mtF v H (q / 100) (q % 100) 1000 0) h ?_ ?_
    · rw [e_X11_meet, b_X11_meet_0, r1, qB_some, psh_some, b_X11_meet_5, if_neg (by decide), b_X11_meet_10]
      exact l1
    · rw [e_X12_meet, b_X12_meet_0, r2, qB_some, psh_some, b_X12_meet_5, if_neg (by decide), b_X12_meet_10]
      exact l2
  · rw [zb_f c1] at r1 r2
    refine opR_no (r := -1) h ?_ ?_
    · rw [e_X11_meet, b_X11_meet_0, r1, qB_some, psh_some, b_X11_meet_5, if_pos rfl, b_X11_meet_8]
    · rw [e_X12_meet, b_X12_meet_0, r2, qB_some, psh_some, b_X12_meet_5, if_pos rfl, b_X12_meet_8]
end OM3
end
section
/-! FROST in general: the class's nights -/
section ON3
variable {L : Nat} {xs : Nat → Int} {d : Nat} {v u : Nat → Nat → Int} {w x Y : Nat} {W : Nat → Int}
/-- what a yard loses in a night -/
def lsW (C : Int) (T : Nat → Int) (y : Nat) : Int := C * ((9 - T y) / 3)
theorem lsW_in {C : Int} {T : Nat → Int} {y : Nat} (hC : 0 ≤ C ∧ C ≤ 9) (hT : 1 ≤ T y ∧ T y ≤ 9) : 0 ≤ lsW C T y ∧ lsW C T y ≤ 18 := by
  unfold lsW
  have h1 : 0 ≤ (9 - T y) / 3 := by omega
  have h2 : (9 - T y) / 3 ≤ 2 := by omega
  have := Int.mul_nonneg hC.1 h1
  have := Int.mul_le_mul hC.2 h2 h1 (by omega)
  omega
def bwW (W : Nat → Int) (y : Nat) : Int := if 0 < y then W (y - 1) else W y
def abW (Y : Nat) (W : Nat → Int) (y : Nat) : Int := if y + 1 < Y then W (y + 1) else W y
def nxW (C : Int) (T : Nat → Int) (Y : Nat) (W : Nat → Int) (y : Nat) : Int := if (2 * W y + bwW W y + abW Y W y) / 4 - lsW C T y < 0 then 0 else (2 * W y + bwW W y + abW Y W y) / 4 - lsW C T y
/-- the warmth after so many nights -/
def ntW (C : Int) (T : Nat → Int) (Y : Nat) (W : Nat → Int) : Nat → Nat → Int
  | 0 => W
  | n + 1 => nxW C T Y (ntW C T Y W n)
theorem bwW_in {y : Nat} (hW : ∀ i, i < Y → 0 ≤ W i ∧ W i ≤ 99) (hy : y < Y) : 0 ≤ bwW W y ∧ bwW W y ≤ 99 := by
  unfold bwW
  by_cases h : 0 < y
  · rw [if_pos h]
    exact hW _ (by omega)
  · rw [if_neg h]
    exact hW _ hy
theorem abW_in {y : Nat} (hW : ∀ i, i < Y → 0 ≤ W i ∧ W i ≤ 99) (hy : y < Y) : 0 ≤ abW Y W y ∧ abW Y W y ≤ 99 := by
  unfold abW
  by_cases h : y + 1 < Y
  · rw [if_pos h]
    exact hW _ h
  · rw [if_neg h]
    exact hW _ hy
theorem nxW_in {C : Int} {T : Nat → Int} (hC : 0 ≤ C ∧ C ≤ 9) (hT : ∀ i, i < 30 → 1 ≤ T i ∧ T i ≤ 9) (hY : Y ≤ 30) (hW : ∀ i, i < Y → 0 ≤ W i ∧ W i ≤ 99) : ∀ i, i < Y → 0 ≤ nxW C T Y W i ∧ nxW C T Y W i ≤ 99 := fun i hi => by
  have a := hW i hi
  have b := bwW_in hW hi
  have c := abW_in hW hi
  have e := lsW_in hC (hT i (by omega))
  unfold nxW
  by_cases g : (2 * W i + bwW W i + abW Y W i) / 4 - lsW C T i < 0
  · rw [if_pos g]
    omega
  · rw [if_neg g]
    omega
theorem ntW_in {C : Int} {T : Nat → Int} (hC : 0 ≤ C ∧ C ≤ 9) (hT : ∀ i, i < 30 → 1 ≤ T i ∧ T i ≤ 9) (hY : Y ≤ 30) (hW : ∀ i, i < Y → 0 ≤ W i ∧ W i ≤ 99) : ∀ n, ∀ i, i < Y → 0 ≤ ntW C T Y W n i ∧ ntW C T Y W n i ≤ 99
  | 0 => hW
  | n + 1 => nxW_in hC hT hY (ntW_in hC hT hY hW n)
/-- the class's cells while the nights pass -/
def FrG (u v : Nat → Nat → Int) (Y : Nat) (W : Nat → Int) (w x : Nat) : Prop := (∀ t k, t ≠ 38 ∧ t ≠ 39 ∧ t ≠ 40 → v t k = u t k) ∧ FrW w x ∧ v 38 0 = .ofNat w ∧ v 38 1 = .ofNat x ∧ v 38 2 = (Y : Int) ∧ ∀ i, i < Y → v w i = W i
theorem FrG_up (h : FrG u v Y W w x) (k : Nat) (z : Int) : FrG u (pm_up v x k z) Y W w x := by
  obtain ⟨h2, h3, h4, h5, h6, h7⟩ := h
  have hx : x ≠ 38 ∧ (x = 39 ∨ x = 40) ∧ w ≠ x := by rcases h3 with ⟨rfl, rfl⟩ | ⟨rfl, rfl⟩ <;> decide
  refine ⟨fun t k ht => ?_, h3, ?_, ?_, ?_, fun i hi => ?_⟩
  · rw [up_ne (by omega)]; exact h2 t k ht
  · rw [up_ne (by omega)]; exact h4
  · rw [up_ne (by omega)]; exact h5
  · rw [up_ne (by omega)]; exact h6
  · rw [up_ne (by omega)]; exact h7 i hi
theorem frg_ld {C : pm_C} {pc pc2 : Nat} {ls st : List pm_V} {y : pm_A} {k : Int} (hf : pm_fetch C pc = some (.iaload, y)) (hp : pc + 1 = pc2) (h : FrG u v Y W w x) (hY : Y ≤ 30) (h0 : 0 ≤ k) (h1 : k < (Y : Int)) : qG L xs d C pc ls ((0, k) :: (2, v 38 0) :: st) (qS v) = qG L xs d C pc2 ls ((0, W k.toNat) :: st) (qS v) := by
  obtain ⟨s1, s2, s3⟩ := fr_sh h.2.1
  rw [h.2.2.1, ← hp, qG_ald2 (Or.inl ⟨rfl, rfl, rfl⟩) hf s3 s1 h0 (by omega) (s2 _), h.2.2.2.2.2 _ (by omega)]
theorem frg_st {C : pm_C} {pc pc2 : Nat} {ls st : List pm_V} {y : pm_A} {k z : Int} (hf : pm_fetch C pc = some (.iastore, y)) (hp : pc + 1 = pc2) (h : FrW w x) (h0 : 0 ≤ k) (h1 : k < 30) : qG L xs d C pc ls ((0, z) :: (0, k) :: (2, .ofNat w) :: st) (qS v) = qG L xs d C pc2 ls st (qS (pm_up v w k.toNat z)) := by
  obtain ⟨s1, s2, s3⟩ := fr_sh h
  rw [← hp, qG_ast2 (Or.inl ⟨rfl, rfl⟩) hf s1 h0 (by omega) (s2 _)]
theorem frg_val (h : FrG u v Y W w x) (a b : Int) (ha : 0 ≤ a) (ha2 : a < 15) (hb : 0 ≤ b) (hb2 : b < hm u a) (hb3 : b < 30) : qE L xs (d + 3) nX9_value [(2, 1), (0, a), (0, b)] (qS v) = some (some (0, u (3 + a.toNat) b.toNat), qS v) := by
  rw [c_value_in a b ha ha2 hb (by rw [hm_fr (funext fun k => h.1 1 k (by omega))]; exact hb2) hb3, h.1 _ _ (by omega)]
theorem frg_num {A B D C T : Int} (hA : 0 ≤ A ∧ A ≤ 99) (hB : 0 ≤ B ∧ B ≤ 99) (hD : 0 ≤ D ∧ D ≤ 99) (hT : 1 ≤ T ∧ T ≤ 9) (hL : 0 ≤ C * ((9 - T) / 3) ∧ C * ((9 - T) / 3) ≤ 18) : pm_max 0 (w32 (w32 (Int.tdiv (w32 (w32 (w32 (2 * A) + B) + D)) 4) - w32 (C * w32 (Int.tdiv (w32 (9 - T)) 3)))) = if (2 * A + B + D) / 4 - C * ((9 - T) / 3) < 0 then 0 else (2 * A + B + D) / 4 - C * ((9 - T) / 3) := by
  rw [w32_id (z := 2 * A) (by omega) (by omega), w32_id (z := 2 * A + B) (by omega) (by omega), w32_id (z := 2 * A + B + D) (by omega) (by omega), td_pos 4 (by omega), w32_id (z := 9 - T) (by omega) (by omega), td_pos 3 (by omega), w32_id (z := (9 - T) / 3) (by omega) (by omega), w32_id (z := (2 * A + B + D) / 4) (by omega) (by omega), w32_id (z := C * ((9 - T) / 3)) (by omega) (by omega), w32_id (by omega) (by omega)]
  unfold pm_max
  by_cases h : (2 * A + B + D) / 4 - C * ((9 - T) / 3) < 0
  · rw [if_pos h]
    split <;> omega
  · rw [if_neg h]
    split <;> omega
theorem lpr_pass (hu : rlW u) (hY : Y ≤ 30) (hW : ∀ i, i < Y → 0 ≤ W i ∧ W i ≤ 99) : ∀ (n j : Nat) (v : Nat → Nat → Int) (u4 u5 u6 : pm_V), j + n = Y → FrG u v Y W w x → (∀ i, i < j → v x i = nxW (u 13 0) (u 3) Y W i) → ∃ v' w4 w5 w6, qG L xs (d + 3) CX4_pass 10 [(2, 38), (2, 1), (0, u 13 0), (0, (j : Int)), u4, u5, u6] [] (qS v) = qG L xs (d + 3) CX4_pass 120 [(2, 38), (2, 1), (0, u 13 0), (0, (Y : Int)), w4, w5, w6] [] (qS v') ∧ FrG u v' Y W w x ∧ ∀ i, i < Y → v' x i = nxW (u 13 0) (u 3) Y W i
  | 0, j, v, u4, u5, u6, hj, hI, hx => by
    refine ⟨v, u4, u5, u6, ?_, hI, fun i hi => hx i (by omega)⟩
    rw [b_X4_pass_10, hI.2.2.2.2.1, if_neg (by omega), show (j : Int) = Y by omega]
  | n + 1, j, v, u4, u5, u6, hj, hI, hx => by
    have e2 := hI.2.2.2.2.1
    obtain ⟨v', w4, w5, w6, h3, h4, h5⟩ := lpr_pass hu hY hW n (j + 1) (pm_up v x (j : Int).toNat (nxW (u 13 0) (u 3) Y W j)) (0, bwW W j) (0, abW Y W j) (0, lsW (u 13 0) (u 3) j) (by omega) (FrG_up hI _ _) (fun i hi => by
      by_cases hij : i = j
      · rw [hij, show (j : Int).toNat = j by omega, up_eq]
      · rw [up_ne (by omega)]; exact hx i (by omega))
    refine ⟨v', w4, w5, w6, Eq.trans ?_ h3, h4, h5⟩
    rw [show ((j + 1 : Nat) : Int) = (j : Int) + 1 by omega]
    have a1 : qG L xs (d + 3) CX4_pass 10 [(2, 38), (2, 1), (0, u 13 0), (0, (j : Int)), u4, u5, u6] [] (qS v) = qG L xs (d + 3) CX4_pass 39 [(2, 38), (2, 1), (0, u 13 0), (0, (j : Int)), u4, u5, u6] [(0, bwW W j)] (qS v) := by
      unfold bwW
      rw [b_X4_pass_10, e2, if_pos (by omega), b_X4_pass_18]
      by_cases hj0 : 0 < j
      · rw [if_pos (by omega), if_pos hj0, b_X4_pass_22, w32_id (by omega) (by omega), frg_ld (pc2 := 30) rfl rfl hI hY (by omega) (by omega), b_X4_pass_30, show ((j : Int) - 1).toNat = j - 1 by omega]
      · rw [if_neg (by omega), if_neg hj0, b_X4_pass_33, frg_ld (pc2 := 39) rfl rfl hI hY (by omega) (by omega), Int.toNat_natCast]
    have a2 : qG L xs (d + 3) CX4_pass 39 [(2, 38), (2, 1), (0, u 13 0), (0, (j : Int)), u4, u5, u6] [(0, bwW W j)] (qS v) = qG L xs (d + 3) CX4_pass 68 [(2, 38), (2, 1), (0, u 13 0), (0, (j : Int)), (0, bwW W j), u5, u6] [(0, abW Y W j)] (qS v) := by
      unfold abW
      rw [b_X4_pass_39, e2, w32_id (by omega) (by omega)]
      by_cases hj0 : j + 1 < Y
      · rw [if_pos (by omega), if_pos hj0, b_X4_pass_51, w32_id (by omega) (by omega), frg_ld (pc2 := 59) rfl rfl hI hY (by omega) (by omega), b_X4_pass_59, show ((j : Int) + 1).toNat = j + 1 by omega]
      · rw [if_neg (by omega), if_neg hj0, b_X4_pass_62, frg_ld (pc2 := 68) rfl rfl hI hY (by omega) (by omega), Int.toNat_natCast]
    have hT := rW_t hu j (by omega)
    have hL := lsW_in (y := j) (T := u 3) (rW_C hu) hT
    have num := frg_num (C := u 13 0) (T := u 3 j) (hW j (by omega)) (bwW_in hW (show j < Y by omega)) (abW_in hW (show j < Y by omega)) hT hL
    have ls : w32 (u 13 0 * w32 (Int.tdiv (w32 (9 - u 3 j)) 3)) = lsW (u 13 0) (u 3) j := by
      have hL2 := hL
      unfold lsW at hL2
      rw [w32_id (z := 9 - u 3 j) (by omega) (by omega), td_pos 3 (by omega), w32_id (z := (9 - u 3 j) / 3) (by omega) (by omega), w32_id (by omega) (by omega)]
      rfl
    rw [a1, a2, b_X4_pass_68, frg_val hI 0 j (by omega) (by omega) (by omega) (by rw [hm_0]; omega) (by omega), qB_some, psh_some, Int.toNat_natCast, show u (3 + (0 : Int).toNat) j = u 3 j from rfl, b_X4_pass_79, frg_ld (pc2 := 98) rfl rfl hI hY (by omega) (by omega), Int.toNat_natCast, hI.2.2.2.1, b_X4_pass_98, num, ls, frg_st (pc2 := 114) rfl rfl (FrW_sym hI.2.1) (by omega) (by omega), b_X4_pass_114, w32_id (by omega) (by omega)]
    rfl
theorem cr_pass (hu : rlW u) (hY : Y ≤ 30) (hW : ∀ i, i < Y → 0 ≤ W i ∧ W i ≤ 99) (hI : FrG u v Y W w x) : ∃ v', qE L xs (d + 4) nX4_pass [(2, 38), (2, 1)] (qS v) = some (none, qS v') ∧ FrG u v' Y (nxW (u 13 0) (u 3) Y W) x w := by
  obtain ⟨v', w4, w5, w6, h3, h4, h5⟩ := lpr_pass (L := L) (xs := xs) (d := d) hu hY hW Y 0 v (9, 0) (9, 0) (9, 0) (by omega) hI (fun i hi => absurd hi (by omega))
  refine ⟨pm_up (pm_up v' 38 0 (v' 38 1)) 38 1 (.ofNat w), ?_, ?_⟩
  · rw [e_X4_pass, b_X4_pass_0, frg_val hI 10 0 (by omega) (by omega) (by omega) (by rw [hm_10]; omega) (by omega), qB_some, psh_some, b_X4_pass_7]
    refine Eq.trans h3 ?_
    rw [b_X4_pass_120, h4.2.2.1]
    refine (qG_1n (ins := .astore_n 3) (x := (0, 0, 0, 0)) (pc2 := 125) (ls2 := [(2, 38), (2, 1), (0, u 13 0), (2, .ofNat w), w4, w5, w6]) (st2 := []) (σ2 := qS v') rfl rfl).trans ?_
    rw [b_X4_pass_125, b_X4_pass_133, b_X4_pass_138]
  · obtain ⟨k2, k3, k4, k5, k6, k7⟩ := h4
    refine ⟨fun t k ht => ?_, FrW_sym k3, ?_, ?_, ?_, fun i hi => ?_⟩
    · rw [up_ne (by omega), up_ne (by omega)]; exact k2 t k ht
    · rw [up_ne (by omega), up_eq]; exact k5
    · rw [up_eq]
    · rw [up_ne (by omega), up_ne (by omega)]; exact k6
    · have : x ≠ 38 := by rcases k3 with ⟨rfl, rfl⟩ | ⟨rfl, rfl⟩ <;> decide
      rw [up_ne (by omega), up_ne (by omega)]; exact h5 i hi
theorem lpr_begin (hY : Y ≤ 30) : ∀ (n j : Nat) (v : Nat → Nat → Int), j + n = Y → (∀ t k, t ≠ 38 ∧ t ≠ 39 ∧ t ≠ 40 → v t k = u t k) → FrW w x → v 38 0 = .ofNat w → v 38 1 = .ofNat x → v 38 2 = (Y : Int) → (∀ i, i < j → v w i = u 4 i) → ∃ v', qG L xs (d + 3) CX4_begin 15 [(2, 38), (2, 1), (0, (j : Int))] [] (qS v) = some (none, qS v') ∧ FrG u v' Y (u 4) w x
  | 0, j, v, hj, h2, hF, h3, h4, h5, h6 => by
    refine ⟨v, ?_, h2, hF, h3, h4, h5, fun i hi => h6 i (by omega)⟩
    rw [b_X4_begin_15, h5, if_neg (by omega), b_X4_begin_41]
  | n + 1, j, v, hj, h2, hF, h3, h4, h5, h6 => by
    have hx : w ≠ 38 ∧ (w = 39 ∨ w = 40) := by rcases hF with ⟨rfl, rfl⟩ | ⟨rfl, rfl⟩ <;> decide
    obtain ⟨v', e1, e2⟩ := lpr_begin hY n (j + 1) (pm_up v w (j : Int).toNat (u 4 j)) (by omega) (fun t k ht => by rw [up_ne (by omega)]; exact h2 t k ht) hF (by rw [up_ne (by omega)]; exact h3) (by rw [up_ne (by omega)]; exact h4) (by rw [up_ne (by omega)]; exact h5) (fun i hi => by
      by_cases hij : i = j
      · rw [hij, show (j : Int).toNat = j by omega, up_eq]
      · rw [up_ne (by omega)]; exact h6 i (by omega))
    refine ⟨v', Eq.trans ?_ e1, e2⟩
    have hv : qE L xs (d + 3) nX9_value [(2, 1), (0, 1), (0, (j : Int))] (qS v) = some (some (0, u 4 j), qS v) := by
      rw [c_value_in 1 j (by omega) (by omega) (by omega) (by rw [hm_1]; omega) (by omega), h2 _ _ (by omega), Int.toNat_natCast]
      rfl
    rw [show ((j + 1 : Nat) : Int) = (j : Int) + 1 by omega]
    rw [b_X4_begin_15, h5, if_pos (by omega), b_X4_begin_23, hv, qB_some, psh_some, h3]
    refine (frg_st (pc2 := 35) rfl rfl hF (by omega) (by omega)).trans ?_
    rw [b_X4_begin_35, w32_id (by omega) (by omega)]
theorem cr_begin (hY : Y ≤ 30) (h11 : v 11 0 = (Y : Int)) (hN : (v 38 0 = 39 ∧ v 38 1 = 40) ∨ (v 38 0 = 40 ∧ v 38 1 = 39)) : ∃ v' w x, qE L xs (d + 4) nX4_begin [(2, 38), (2, 1)] (qS v) = some (none, qS v') ∧ FrG v v' Y (v 4) w x := by
  obtain ⟨w, x, hF, h3, h4⟩ : ∃ w x : Nat, FrW w x ∧ v 38 0 = .ofNat w ∧ v 38 1 = .ofNat x := by
    rcases hN with ⟨a, b⟩ | ⟨a, b⟩
    · exact ⟨39, 40, Or.inl ⟨rfl, rfl⟩, a, b⟩
    · exact ⟨40, 39, Or.inr ⟨rfl, rfl⟩, a, b⟩
  obtain ⟨v', e1, e2⟩ := lpr_begin (L := L) (xs := xs) (d := d) (u := v) (w := w) (x := x) hY Y 0 (pm_up v 38 2 Y) (by omega) (fun t k ht => by rw [up_ne (by omega)]) hF (by rw [up_ne (by omega), h3]) (by rw [up_ne (by omega), h4]) (by rw [up_eq]) (fun i hi => absurd hi (by omega))
  refine ⟨v', w, x, ?_, e2⟩
  have hm : pm_min (Y : Int) 30 = (Y : Int) := by
    unfold pm_min
    split <;> omega
  rw [e_X4_begin, b_X4_begin_0, c_yardsNow, qB_some, psh_some, b_X4_begin_5, h11, hm, b_X4_begin_13]
  exact e1
end ON3
end
section
/-! FROST in general: the reference's nights; frost and frozen keep the relation -/
section OO3
variable {L : Nat} {xs : Nat → Int} {d : Nat} {v u : Nat → Nat → Int} {w x Y : Nat} {W : Nat → Int}
/-- the reference's cells while the nights pass -/
def MrG (u v : Nat → Nat → Int) (Y : Nat) (W : Nat → Int) : Prop := (∀ t k, t ≠ 77 ∧ t ≠ 78 → v t k = u t k) ∧ ∀ i, i < Y → v 77 i = W i
theorem lpr_mbegin (hY : Y ≤ 30) (h14 : u 64 140 = (Y : Int)) : ∀ (n j : Nat) (v : Nat → Nat → Int), j + n = Y → MrG u v j (fun i => u 64 (30 + i)) → ∃ v', qG L xs (d + 3) CX12_beginsFrost 2 [(2, 63), (0, (j : Int))] [] (qS v) = some (none, qS v') ∧ MrG u v' Y (fun i => u 64 (30 + i))
  | 0, j, v, hj, h => by
    obtain rfl : j = Y := by omega
    refine ⟨v, ?_, h⟩
    rw [b_X12_beginsFrost_2, c_yardMany, qB_some, psh_some, b_X12_beginsFrost_7, h.1 64 140 (by omega), h14, if_neg (by omega), b_X12_beginsFrost_27]
  | n + 1, j, v, hj, h => by
    obtain ⟨v', e1, e2⟩ := lpr_mbegin hY h14 n (j + 1) (pm_up v 77 (j : Int).toNat (u 64 (30 + j))) (by omega) ⟨fun t k ht => by rw [up_ne (by omega)]; exact h.1 t k ht, fun i hi => by
      by_cases hij : i = j
      · rw [hij, show (j : Int).toNat = j by omega, up_eq]
      · rw [up_ne (by omega)]; exact h.2 i (by omega)⟩
    refine ⟨v', Eq.trans ?_ e1, e2⟩
    rw [show ((j + 1 : Nat) : Int) = (j : Int) + 1 by omega]
    rw [b_X12_beginsFrost_2, c_yardMany, qB_some, psh_some, b_X12_beginsFrost_7, h.1 64 140 (by omega), h14, if_pos (by omega), b_X12_beginsFrost_10, m_warmOf (by omega) (by omega), qB_some, psh_some, h.1 64 _ (by omega), show (30 + (j : Int)).toNat = 30 + j by omega, b_X12_beginsFrost_20, if_pos (by omega), b_X12_beginsFrost_21, w32_id (by omega) (by omega)]
theorem mr_begin (hY : Y ≤ 30) (h14 : v 64 140 = (Y : Int)) : ∃ v', qE L xs (d + 4) nX12_beginsFrost [(2, 63)] (qS v) = some (none, qS v') ∧ MrG v v' Y (fun i => v 64 (30 + i)) := by
  rw [e_X12_beginsFrost, b_X12_beginsFrost_0]
  exact lpr_mbegin hY h14 Y 0 v (by omega) ⟨fun _ _ _ => rfl, fun i hi => absurd hi (by omega)⟩
/-- the reference's wall -/
def MW (u : Nat → Nat → Int) (Y : Nat) (C : Int) (T : Nat → Int) : Prop := u 64 140 = (Y : Int) ∧ u 64 142 = C ∧ (∀ i, i < 30 → u 64 i = T i) ∧ Y ≤ 30 ∧ (0 ≤ C ∧ C ≤ 9) ∧ ∀ i, i < 30 → 1 ≤ T i ∧ T i ≤ 9
theorem lpr_mfr1 {C : Int} {T : Nat → Int} (hM : MW u Y C T) (hW : ∀ i, i < Y → 0 ≤ W i ∧ W i ≤ 99) : ∀ (n j : Nat) (v : Nat → Nat → Int) (u3 u4 u5 : pm_V), j + n = Y → MrG u v Y W → (∀ i, i < j → v 78 i = nxW C T Y W i) → ∃ v' w3 w4 w5, qG L xs (d + 3) CX12_freezes 7 [(2, 63), (0, (Y : Int)), (0, (j : Int)), u3, u4, u5] [] (qS v) = qG L xs (d + 3) CX12_freezes 120 [(2, 63), (0, (Y : Int)), (0, (Y : Int)), w3, w4, w5] [] (qS v') ∧ MrG u v' Y W ∧ ∀ i, i < Y → v' 78 i = nxW C T Y W i
  | 0, j, v, u3, u4, u5, hj, h, h8 => by
    refine ⟨v, u3, u4, u5, ?_, h, fun i hi => h8 i (by omega)⟩
    rw [b_X12_freezes_7, if_neg (by omega), show (j : Int) = Y by omega]
  | n + 1, j, v, u3, u4, u5, hj, h, h8 => by
    obtain ⟨h1, h2, h3, hY, hC, hT⟩ := hM
    obtain ⟨v', w3, w4, w5, e1, e2, e3⟩ := lpr_mfr1 ⟨h1, h2, h3, hY, hC, hT⟩ hW n (j + 1) (pm_up v 78 (j : Int).toNat (nxW C T Y W j)) (0, bwW W j) (0, abW Y W j) (0, (2 * W j + bwW W j + abW Y W j) / 4 - lsW C T j) (by omega) ⟨fun t k ht => by rw [up_ne (by omega)]; exact h.1 t k ht, fun i hi => by rw [up_ne (by omega)]; exact h.2 i hi⟩ (fun i hi => by
      by_cases hij : i = j
      · rw [hij, show (j : Int).toNat = j by omega, up_eq]
      · rw [up_ne (by omega)]; exact h8 i (by omega))
    refine ⟨v', w3, w4, w5, Eq.trans ?_ e1, e2, e3⟩
    rw [show ((j + 1 : Nat) : Int) = (j : Int) + 1 by omega]
    have a1 : qG L xs (d + 3) CX12_freezes 7 [(2, 63), (0, (Y : Int)), (0, (j : Int)), u3, u4, u5] [] (qS v) = qG L xs (d + 3) CX12_freezes 33 [(2, 63), (0, (Y : Int)), (0, (j : Int)), u3, u4, u5] [(0, bwW W j)] (qS v) := by
      unfold bwW
      rw [b_X12_freezes_7, if_pos (by omega), b_X12_freezes_12]
      by_cases hj0 : 0 < j
      · rw [if_pos (by omega), if_pos hj0, b_X12_freezes_16, w32_id (by omega) (by omega), if_pos (by omega), b_X12_freezes_24, show ((j : Int) - 1).toNat = j - 1 by omega, h.2 _ (by omega)]
      · rw [if_neg (by omega), if_neg hj0, b_X12_freezes_27, if_pos (by omega), Int.toNat_natCast, h.2 _ (by omega)]
    have a2 : qG L xs (d + 3) CX12_freezes 33 [(2, 63), (0, (Y : Int)), (0, (j : Int)), u3, u4, u5] [(0, bwW W j)] (qS v) = qG L xs (d + 3) CX12_freezes 58 [(2, 63), (0, (Y : Int)), (0, (j : Int)), (0, bwW W j), u4, u5] [(0, abW Y W j)] (qS v) := by
      unfold abW
      rw [b_X12_freezes_33, w32_id (by omega) (by omega)]
      by_cases hj0 : j + 1 < Y
      · rw [if_pos (by omega), if_pos hj0, b_X12_freezes_41, w32_id (by omega) (by omega), if_pos (by omega), b_X12_freezes_49, show ((j : Int) + 1).toNat = j + 1 by omega, h.2 _ (by omega)]
      · rw [if_neg (by omega), if_neg hj0, b_X12_freezes_52, if_pos (by omega), Int.toNat_natCast, h.2 _ (by omega)]
    have hTj := hT j (by omega)
    have hL := lsW_in (y := j) hC hTj
    have kA := hW j (by omega)
    have kB := bwW_in hW (show j < Y by omega)
    have kD := abW_in hW (show j < Y by omega)
    have num : w32 (w32 (Int.tdiv (w32 (w32 (w32 (2 * W j) + bwW W j) + abW Y W j)) 4) - w32 (C * w32 (Int.tdiv (w32 (9 - T j)) 3))) = (2 * W j + bwW W j + abW Y W j) / 4 - lsW C T j := by
      have hL2 := hL
      unfold lsW at hL2
      rw [w32_id (z := 2 * W j) (by omega) (by omega), w32_id (z := 2 * W j + bwW W j) (by omega) (by omega), w32_id (z := 2 * W j + bwW W j + abW Y W j) (by omega) (by omega), td_pos 4 (by omega), w32_id (z := 9 - T j) (by omega) (by omega), td_pos 3 (by omega), w32_id (z := (9 - T j) / 3) (by omega) (by omega), w32_id (z := (2 * W j + bwW W j + abW Y W j) / 4) (by omega) (by omega), w32_id (z := C * ((9 - T j) / 3)) (by omega) (by omega), w32_id (by omega) (by omega)]
      rfl
    rw [a1, a2, b_X12_freezes_58, if_pos (by omega), Int.toNat_natCast, h.2 j (by omega), b_X12_freezes_67, m_thickOf (by omega) (by omega), qB_some, psh_some, Int.toNat_natCast, h.1 64 j (by omega), h3 j (by omega), h.1 64 142 (by omega), h2, b_X12_freezes_90, num]
    by_cases hc : (2 * W j + bwW W j + abW Y W j) / 4 - lsW C T j < 0
    · rw [if_pos hc, b_X12_freezes_107, b_X12_freezes_113, if_pos (by omega), Int.toNat_natCast, b_X12_freezes_114, w32_id (by omega) (by omega)]
      unfold nxW
      rw [if_pos hc]
    · rw [if_neg hc, b_X12_freezes_111, b_X12_freezes_113, if_pos (by omega), Int.toNat_natCast, b_X12_freezes_114, w32_id (by omega) (by omega)]
      unfold nxW
      rw [if_neg hc]
theorem lpr_mfr2 {N : Nat → Int} (hY : Y ≤ 30) : ∀ (n j : Nat) (v : Nat → Nat → Int) (u3 u4 u5 : pm_V), j + n = Y → (∀ t k, t ≠ 77 ∧ t ≠ 78 → v t k = u t k) → (∀ i, i < Y → v 78 i = N i) → (∀ i, i < j → v 77 i = N i) → ∃ v', qG L xs (d + 3) CX12_freezes 122 [(2, 63), (0, (Y : Int)), (0, (j : Int)), u3, u4, u5] [] (qS v) = some (none, qS v') ∧ MrG u v' Y N
  | 0, j, v, u3, u4, u5, hj, h, h7, h8 => by
    refine ⟨v, ?_, h, fun i hi => h8 i (by omega)⟩
    rw [b_X12_freezes_122, if_neg (by omega), b_X12_freezes_145]
  | n + 1, j, v, u3, u4, u5, hj, h, h7, h8 => by
    obtain ⟨v', e1, e2⟩ := lpr_mfr2 (N := N) hY n (j + 1) (pm_up v 77 (j : Int).toNat (N j)) u3 u4 u5 (by omega) (fun t k ht => by rw [up_ne (by omega)]; exact h t k ht) (fun i hi => by rw [up_ne (by omega)]; exact h7 i hi) (fun i hi => by
      by_cases hij : i = j
      · rw [hij, show (j : Int).toNat = j by omega, up_eq]
      · rw [up_ne (by omega)]; exact h8 i (by omega))
    refine ⟨v', Eq.trans ?_ e1, e2⟩
    rw [show ((j + 1 : Nat) : Int) = (j : Int) + 1 by omega]
    rw [b_X12_freezes_122, if_pos (by omega), b_X12_freezes_127, if_pos (by omega), h7 _ (by omega), Int.toNat_natCast, b_X12_freezes_138, if_pos (by omega), b_X12_freezes_139, w32_id (by omega) (by omega)]
    rfl
theorem mr_freezes {C : Int} {T : Nat → Int} (hM : MW u Y C T) (hW : ∀ i, i < Y → 0 ≤ W i ∧ W i ≤ 99) (h : MrG u v Y W) : ∃ v', qE L xs (d + 4) nX12_freezes [(2, 63)] (qS v) = some (none, qS v') ∧ MrG u v' Y (nxW C T Y W) := by
  obtain ⟨v1, w3, w4, w5, e1, e2, e3⟩ := lpr_mfr1 (L := L) (xs := xs) (d := d) hM hW Y 0 v (9, 0) (9, 0) (9, 0) (by omega) h (fun i hi => absurd hi (by omega))
  obtain ⟨v', e4, e5⟩ := lpr_mfr2 (L := L) (xs := xs) (d := d) (u := u) hM.2.2.2.1 Y 0 v1 w3 w4 w5 (by omega) e2.1 e3 (fun i hi => absurd hi (by omega))
  refine ⟨v', ?_, e5⟩
  rw [e_X12_freezes, b_X12_freezes_0, c_yardMany, qB_some, psh_some, b_X12_freezes_4, h.1 64 140 (by omega), hM.1]
  refine Eq.trans e1 ?_
  rw [b_X12_freezes_120]
  exact e4
/-- the nights that pass in frost() -/
theorem lpr_frost (hu : rlW u) (hY : Y ≤ 30) (hW : ∀ i, i < Y → 0 ≤ W i ∧ W i ≤ 99) (n : Int) (y : Nat) (hy2 : y < Y) (hn : n ≤ 60) : ∀ (m j : Nat) (v : Nat → Nat → Int) (w x : Nat), (j : Int) + m = n → FrG u v Y (ntW (u 13 0) (u 3) Y W j) w x → ∃ v' w' x', qG L xs (d + 4) CX11_frost 36 [(2, 0), (0, n), (0, (y : Int)), (0, (j : Int))] [] (qS v) = some (some (0, ntW (u 13 0) (u 3) Y W (j + m) y), qS v') ∧ FrG u v' Y (ntW (u 13 0) (u 3) Y W (j + m)) w' x'
  | 0, j, v, w, x, hj, hI => by
    refine ⟨v, w, x, ?_, hI⟩
    have hw : qE L xs (d + 4) nX4_warmth [(2, 38), (0, (y : Int))] (qS v) = some (some (0, ntW (u 13 0) (u 3) Y W j y), qS v) := by
      rw [e_X4_warmth, b_X4_warmth_0, if_neg (by omega), b_X4_warmth_4, hI.2.2.2.2.1, if_pos (by omega), b_X4_warmth_12, frg_ld (pc2 := 18) rfl rfl hI hY (by omega) (by omega), b_X4_warmth_18, b_X4_warmth_22, Int.toNat_natCast]
    rw [b_X11_frost_36, if_neg (by omega), b_X11_frost_58, hw, qB_some, psh_some, b_X11_frost_66]
    rfl
  | m + 1, j, v, w, x, hj, hI => by
    have hc := ntW_in (rW_C hu) (fun i hi => rW_t hu i hi) hY hW j
    obtain ⟨v1, e1, e2⟩ := cr_pass (L := L) (xs := xs) (d := d) hu hY hc hI
    obtain ⟨v', w', x', e3, e4⟩ := lpr_frost hu hY hW n y hy2 hn m (j + 1) v1 x w (by omega) e2
    rw [show j + 1 + m = j + (m + 1) by omega] at e4
    refine ⟨v', w', x', ?_, e4⟩
    rw [show ((j + 1 : Nat) : Int) = (j : Int) + 1 by omega, show j + 1 + m = j + (m + 1) by omega] at e3
    rw [b_X11_frost_36, if_pos (by omega), b_X11_frost_41, e1, qB_some, psh_none, b_X11_frost_52, w32_id (by omega) (by omega)]
    exact e3
theorem lpr_mfrost {C : Int} {T : Nat → Int} (hM : MW u Y C T) (hW : ∀ i, i < Y → 0 ≤ W i ∧ W i ≤ 99) (n : Int) (y : Nat) (hy2 : y < Y) (hn : n ≤ 60) : ∀ (m j : Nat) (v : Nat → Nat → Int), (j : Int) + m = n → MrG u v Y (ntW C T Y W j) → ∃ v', qG L xs (d + 4) CX12_frost 29 [(2, 63), (0, n), (0, (y : Int)), (0, (j : Int))] [] (qS v) = some (some (0, ntW C T Y W (j + m) y), qS v') ∧ MrG u v' Y (ntW C T Y W (j + m))
  | 0, j, v, hj, h => by
    have hY := hM.2.2.2.1
    refine ⟨v, ?_, h⟩
    rw [b_X12_frost_29, if_neg (by omega), b_X12_frost_44, if_pos (by omega), Int.toNat_natCast, h.2 _ (by omega), b_X12_frost_50]
    rfl
  | m + 1, j, v, hj, h => by
    have hc := ntW_in hM.2.2.2.2.1 hM.2.2.2.2.2 hM.2.2.2.1 hW j
    obtain ⟨v1, e1, e2⟩ := mr_freezes (L := L) (xs := xs) (d := d) hM hc h
    obtain ⟨v', e3, e4⟩ := lpr_mfrost hM hW n y hy2 hn m (j + 1) v1 (by omega) e2
    rw [show j + 1 + m = j + (m + 1) by omega] at e4
    refine ⟨v', ?_, e4⟩
    rw [show ((j + 1 : Nat) : Int) = (j : Int) + 1 by omega, show j + 1 + m = j + (m + 1) by omega] at e3
    rw [b_X12_frost_29, if_pos (by omega), b_X12_frost_34, e1, qB_some, psh_none, b_X12_frost_38, w32_id (by omega) (by omega)]
    exact e3
end OO3
end
section
/-! frost and frozen keep the relation -/
section OP3
variable {L : Nat} {xs : Nat → Int} {d : Nat} {v u : Nat → Nat → Int} {w x Y : Nat} {W : Nat → Int}
/-- after the class's nights -/
theorem rR_frG (h : rlR v) {u' : Nat → Nat → Int} (hI : FrG v u' Y W w x) : rlR u' := by
  obtain ⟨h2, h3, h4, h5, h6, h7⟩ := hI
  refine rlR_or h (Or.inr (fun c j q => h2 c j (by unfold dsW at q; omega))) (Or.inr (fun c j q => h2 c j (by unfold dsC at q; omega))) (Or.inr (fun c j q => h2 c j (by unfold dsT at q; omega))) (Or.inr (fun c j q => h2 c j (by unfold dsL at q; omega))) (Or.inr (fun c j q => h2 c j (by unfold dsD at q; omega))) (Or.inr (fun c j q => h2 c j (by unfold dsG at q; omega))) (Or.inr (fun c j q => h2 c j (by unfold dsB at q; omega))) (Or.inr (fun c j q => h2 c j (by unfold dsS at q; omega))) (Or.inl ⟨?_, ?_⟩)
  · rw [h2 63 22 (by omega), h2 63 23 (by omega), h2 63 24 (by omega)]
    exact h.2.2.2.2.2.2.2.2.1
  · rcases h3 with ⟨rfl, rfl⟩ | ⟨rfl, rfl⟩
    · exact Or.inl ⟨h4, h5⟩
    · exact Or.inr ⟨h4, h5⟩
theorem rR_mrG (h : rlR v) {u' : Nat → Nat → Int} (hI : MrG v u' Y W) : rlR u' := by
  refine rlR_cg (fun c j q => hI.1 c j ?_) h
  unfold dsR dsW dsC dsT dsL dsD dsG dsB dsS dsN at q
  omega
theorem rW_MW (h : rlW v) (h11 : v 11 0 = (Y : Int)) : MW v Y (v 13 0) (v 3) := by
  have hL := rW_L h
  exact ⟨(rM_L h).trans h11, rM_C h, fun i hi => rM_t h i hi, by omega, rW_C h, fun i hi => rW_t h i hi⟩
theorem ntW_cg {C : Int} {T W' : Nat → Int} (h : ∀ i, i < Y → W i = W' i) : ∀ m i, i < Y → ntW C T Y W m i = ntW C T Y W' m i
  | 0, i, hi => h i hi
  | m + 1, i, hi => by
    have ih := ntW_cg (C := C) (T := T) h m
    show nxW _ _ _ _ i = nxW _ _ _ _ i
    have a : bwW (ntW C T Y W m) i = bwW (ntW C T Y W' m) i := by
      unfold bwW
      rw [ih (i - 1) (by omega), ih i hi]
    have b : abW Y (ntW C T Y W m) i = abW Y (ntW C T Y W' m) i := by
      unfold abW
      by_cases g : i + 1 < Y
      · rw [if_pos g, if_pos g, ih (i + 1) g]
      · rw [if_neg g, if_neg g, ih i hi]
    unfold nxW
    rw [a, b, ih i hi]
theorem opr_frost (h : rlR v) (n y : Int) : opR L xs v nX11_frost nX12_frost 0 [(0, n), (0, y)] := by
  have hL := rW_L h.1
  have hM := rM_L h.1
  obtain ⟨Y, hY⟩ : ∃ Y : Nat, v 11 0 = (Y : Int) := ⟨(v 11 0).toNat, by omega⟩
  by_cases h1 : 0 ≤ n ∧ n ≤ 60
  · by_cases h2 : 0 ≤ y ∧ y < v 11 0
    · obtain ⟨q, rfl⟩ : ∃ q : Nat, y = (q : Int) := ⟨y.toNat, by omega⟩
      have hW : ∀ i, i < Y → 0 ≤ v 4 i ∧ v 4 i ≤ 99 := fun i hi => rW_w h.1 i (by omega)
      obtain ⟨v1, w, x, e1, e2⟩ := cr_begin (L := L) (xs := xs) (d := 995) (Y := Y) (v := v) (by omega) hY h.2.2.2.2.2.2.2.2.2
      obtain ⟨v', w', x', e3, e4⟩ := lpr_frost (L := L) (xs := xs) (d := 995) (u := v) (Y := Y) (W := v 4) h.1 (by omega) hW n q (by omega) h1.2 n.toNat 0 v1 w x (by omega) e2
      rw [show 0 + n.toNat = n.toNat by omega] at e3 e4
      have hR := rR_frG h e4
      have k := fun t i => e4.1 t i
      have hW2 : ∀ i, i < Y → 0 ≤ v' 64 (30 + i) ∧ v' 64 (30 + i) ≤ 99 := fun i hi => by
        rw [rM_w hR.1 i (by omega)]
        exact rW_w hR.1 i (by omega)
      have h11 : v' 11 0 = (Y : Int) := by rw [k 11 0 (by omega)]; exact hY
      have hMW := rW_MW hR.1 h11
      obtain ⟨v2, e5, e6⟩ := mr_begin (L := L) (xs := xs) (d := 995) (v := v') (Y := Y) (by omega) hMW.1
      obtain ⟨v3, e7, e8⟩ := lpr_mfrost (L := L) (xs := xs) (d := 995) (u := v') (Y := Y) hMW hW2 n q (by omega) h1.2 n.toNat 0 v2 (by omega) e6
      rw [show 0 + n.toNat = n.toNat by omega] at e7 e8
      have hM1 := hMW.1
      have eq : ∀ m i, i < Y → ntW (v' 13 0) (v' 3) Y (fun i => v' 64 (30 + i)) m i = ntW (v 13 0) (v 3) Y (v 4) m i := by
        rw [k 13 0 (by omega), show v' 3 = v 3 from funext fun t => k 3 t (by omega)]
        exact ntW_cg (fun i hi => (rM_w hR.1 i (by omega)).trans (k 4 i (by omega)))
      refine ⟨ntW (v 13 0) (v 3) Y (v 4) n.toNat q, v', v3, ?_, ?_, rR_mrG hR e8⟩
      · rw [e_X11_frost, b_X11_frost_0, if_neg (by omega), b_X11_frost_4, if_neg (by omega), b_X11_frost_10, c_hasYard, qB_some, psh_some, b_X11_frost_18, zb_0, if_pos h2, b_X11_frost_23, e1, qB_some, psh_none, b_X11_frost_34]
        exact e3
      · rw [e_X12_frost, b_X12_frost_0, c_within, qB_some, psh_some, b_X12_frost_9, zb_0, if_pos h1, b_X12_frost_12, c_isYard (by omega) (by omega), qB_some, psh_some, b_X12_frost_18, zb_0, if_pos (by omega), b_X12_frost_23, e5, qB_some, psh_none, b_X12_frost_27]
        rw [← eq n.toNat q (by omega)]
        exact e7
    · refine opR_no (r := -1) h ?_ ?_
      · rw [e_X11_frost, b_X11_frost_0, if_neg (by omega), b_X11_frost_4, if_neg (by omega), b_X11_frost_10, c_hasYard, qB_some, psh_some, b_X11_frost_18, zb_0, if_neg h2, b_X11_frost_21]
      · rw [e_X12_frost, b_X12_frost_0, c_within, qB_some, psh_some, b_X12_frost_9, zb_0, if_pos h1, b_X12_frost_12, c_isYard (by omega) (by omega), qB_some, psh_some, b_X12_frost_18, zb_0, if_neg (by omega), b_X12_frost_21]
  · refine opR_no (r := -1) h ?_ ?_
    · rw [e_X11_frost, b_X11_frost_0]
      by_cases h3 : n < 0
      · rw [if_pos h3, b_X11_frost_21]
      · rw [if_neg h3, b_X11_frost_4, if_pos (by omega), b_X11_frost_21]
    · rw [e_X12_frost, b_X12_frost_0, c_within, qB_some, psh_some, b_X12_frost_9, zb_0, if_neg h1, b_X12_frost_21]
/-- the first cold yard from j on, of n more; -1 without one -/
def fzW (W : Nat → Int) : Nat → Nat → Int
  | 0, _ => -1
  | n + 1, j => if W j = 0 then (j : Int) else fzW W n (j + 1)
theorem lpr_zero (hI : FrG u v Y W w x) (hY : Y ≤ 30) : ∀ (n j : Nat), j + n = Y → qG L xs d CX4_firstAtZero 2 [(2, 38), (0, (j : Int))] [] (qS v) = some (some (0, fzW W n j), qS v)
  | 0, j, hj => by
    rw [b_X4_firstAtZero_2, hI.2.2.2.2.1, if_neg (by omega), b_X4_firstAtZero_27]
    rfl
  | n + 1, j, hj => by
    have h3 := lpr_zero hI hY n (j + 1) (by omega)
    rw [show ((j + 1 : Nat) : Int) = (j : Int) + 1 by omega] at h3
    rw [b_X4_firstAtZero_2, hI.2.2.2.2.1, if_pos (by omega), b_X4_firstAtZero_10, frg_ld (pc2 := 16) rfl rfl hI hY (by omega) (by omega), Int.toNat_natCast, b_X4_firstAtZero_16]
    unfold fzW
    by_cases g : W j = 0
    · rw [if_pos g, if_pos g, b_X4_firstAtZero_19]
    · rw [if_neg g, if_neg g, b_X4_firstAtZero_21, w32_id (by omega) (by omega)]
      exact h3
/-- what frozen() answers, from the night j on -/
def frW (N : Nat → Nat → Int) (Y : Nat) (a : Int) : Nat → Nat → Int
  | 0, _ => -2
  | n + 1, j => if fzW (N j) Y 0 < 0 then frW N Y a n (j + 1) else if a = 0 then fzW (N j) Y 0 else (j : Int)
theorem lpr_frozen (hu : rlW u) (hY : Y ≤ 30) (hW : ∀ i, i < Y → 0 ≤ W i ∧ W i ≤ 99) (a : Int) : ∀ (m j : Nat) (v : Nat → Nat → Int) (w x : Nat) (u3 : pm_V), j + m = 61 → FrG u v Y (ntW (u 13 0) (u 3) Y W j) w x → ∃ v' W' w' x', qG L xs (d + 4) CX11_frozen 24 [(2, 0), (0, a), (0, (j : Int)), u3] [] (qS v) = some (some (0, frW (ntW (u 13 0) (u 3) Y W) Y a m j), qS v') ∧ FrG u v' Y W' w' x'
  | 0, j, v, w, x, u3, hj, hI => by
    refine ⟨v, _, w, x, ?_, hI⟩
    rw [b_X11_frozen_24, if_pos (by omega), b_X11_frozen_69]
    rfl
  | m + 1, j, v, w, x, u3, hj, hI => by
    have hc := ntW_in (rW_C hu) (fun i hi => rW_t hu i hi) hY hW j
    have lz := lpr_zero (L := L) (xs := xs) (d := d + 3) hI hY Y 0 (by omega)
    rw [show ((0 : Nat) : Int) = 0 from rfl] at lz
    rw [b_X11_frozen_24, if_neg (by omega), b_X11_frozen_30, e_X4_firstAtZero, b_X4_firstAtZero_0, lz, qB_some, psh_some, b_X11_frozen_37]
    unfold frW
    by_cases h0 : fzW (ntW (u 13 0) (u 3) Y W j) Y 0 < 0
    · obtain ⟨v1, e1, e2⟩ := cr_pass (L := L) (xs := xs) (d := d) hu hY hc hI
      obtain ⟨v', W', w', x', e3, e4⟩ := lpr_frozen hu hY hW a m (j + 1) v1 x w (0, fzW (ntW (u 13 0) (u 3) Y W j) Y 0) (by omega) e2
      refine ⟨v', W', w', x', ?_, e4⟩
      rw [show ((j + 1 : Nat) : Int) = (j : Int) + 1 by omega] at e3
      rw [if_pos h0, if_pos h0, b_X11_frozen_52, e1, qB_some, psh_none, b_X11_frozen_63, w32_id (by omega) (by omega)]
      exact e3
    · refine ⟨v, _, w, x, ?_, hI⟩
      rw [if_neg h0, if_neg h0, b_X11_frozen_42]
      by_cases ha : a = 0
      · rw [if_pos ha, if_pos ha, b_X11_frozen_46, b_X11_frozen_51]
      · rw [if_neg ha, if_neg ha, b_X11_frozen_50, b_X11_frozen_51]
theorem lpr_mzero {T : Nat → Int} {C : Int} (a k : Int) (hM : MW u Y C T) (h : MrG u v Y W) : ∀ (n j : Nat), j + n = Y → (fzW W n j < 0 → qG L xs (d + 1) CX12_frozen 26 [(2, 63), (0, a), (0, k), (0, (j : Int))] [] (qS v) = qG L xs (d + 1) CX12_frozen 59 [(2, 63), (0, a), (0, k), (0, (Y : Int))] [] (qS v)) ∧ (¬ fzW W n j < 0 → qG L xs (d + 1) CX12_frozen 26 [(2, 63), (0, a), (0, k), (0, (j : Int))] [] (qS v) = some (some (0, if a = 0 then fzW W n j else k), qS v))
  | 0, j, hj => by
    refine ⟨fun _ => ?_, fun q => absurd (show fzW W 0 j < 0 by show (-1 : Int) < 0; omega) q⟩
    rw [b_X12_frozen_26, c_yardMany, qB_some, psh_some, b_X12_frozen_31, h.1 64 140 (by omega), hM.1, if_neg (by omega), show (j : Int) = Y by omega]
  | n + 1, j, hj => by
    have hY := hM.2.2.2.1
    have ih := lpr_mzero a k hM h n (j + 1) (by omega)
    rw [show ((j + 1 : Nat) : Int) = (j : Int) + 1 by omega] at ih
    rw [b_X12_frozen_26, c_yardMany, qB_some, psh_some, b_X12_frozen_31, h.1 64 140 (by omega), hM.1, if_pos (by omega), b_X12_frozen_34, if_pos (by omega), Int.toNat_natCast, h.2 _ (by omega), b_X12_frozen_40]
    unfold fzW
    by_cases g : W j = 0
    · rw [if_pos g, if_pos g, b_X12_frozen_43]
      refine ⟨fun q => by omega, fun _ => ?_⟩
      by_cases ha : a = 0
      · rw [if_pos ha, if_pos ha, b_X12_frozen_47, b_X12_frozen_52]
      · rw [if_neg ha, if_neg ha, b_X12_frozen_51, b_X12_frozen_52]
    · rw [if_neg g, if_neg g, b_X12_frozen_53, w32_id (by omega) (by omega)]
      exact ih
theorem lpr_mfrozen {C : Int} {T : Nat → Int} (hM : MW u Y C T) (hW : ∀ i, i < Y → 0 ≤ W i ∧ W i ≤ 99) (a : Int) : ∀ (m j : Nat) (v : Nat → Nat → Int) (u3 : pm_V), j + m = 61 → MrG u v Y (ntW C T Y W j) → ∃ v' W', qG L xs (d + 4) CX12_frozen 18 [(2, 63), (0, a), (0, (j : Int)), u3] [] (qS v) = some (some (0, frW (ntW C T Y W) Y a m j), qS v') ∧ MrG u v' Y W'
  | 0, j, v, u3, hj, h => by
    refine ⟨v, _, ?_, h⟩
    rw [b_X12_frozen_18, if_pos (by omega), b_X12_frozen_69]
    rfl
  | m + 1, j, v, u3, hj, h => by
    have hc := ntW_in hM.2.2.2.2.1 hM.2.2.2.2.2 hM.2.2.2.1 hW j
    have lz := lpr_mzero (L := L) (xs := xs) (d := d + 3) a (j : Int) hM h Y 0 (by omega)
    rw [show ((0 : Nat) : Int) = 0 from rfl] at lz
    rw [b_X12_frozen_18, if_neg (by omega), b_X12_frozen_24]
    unfold frW
    by_cases h0 : fzW (ntW C T Y W j) Y 0 < 0
    · obtain ⟨v1, e1, e2⟩ := mr_freezes (L := L) (xs := xs) (d := d) hM hc h
      obtain ⟨v', W', e3, e4⟩ := lpr_mfrozen hM hW a m (j + 1) v1 (0, (Y : Int)) (by omega) e2
      refine ⟨v', W', ?_, e4⟩
      rw [show ((j + 1 : Nat) : Int) = (j : Int) + 1 by omega] at e3
      rw [if_pos h0]
      refine Eq.trans (lz.1 h0) ?_
      rw [b_X12_frozen_59, e1, qB_some, psh_none, b_X12_frozen_63, w32_id (by omega) (by omega)]
      exact e3
    · refine ⟨v, _, ?_, h⟩
      rw [if_neg h0]
      exact lz.2 h0
theorem fzW_cg {W' : Nat → Int} (h : ∀ i, i < Y → W i = W' i) : ∀ n j, j + n = Y → fzW W n j = fzW W' n j
  | 0, _, _ => rfl
  | n + 1, j, hj => by
    unfold fzW
    rw [h j (by omega), fzW_cg h n (j + 1) (by omega)]
theorem frW_cg {N N' : Nat → Nat → Int} {a : Int} (h : ∀ m i, i < Y → N m i = N' m i) : ∀ n j, frW N Y a n j = frW N' Y a n j
  | 0, _ => rfl
  | n + 1, j => by
    unfold frW
    rw [fzW_cg (h j) Y 0 (by omega), frW_cg h n (j + 1)]
theorem opr_frozen (h : rlR v) (a : Int) : opR L xs v nX11_frozen nX12_frozen 0 [(0, a)] := by
  have hL := rW_L h.1
  obtain ⟨Y, hY⟩ : ∃ Y : Nat, v 11 0 = (Y : Int) := ⟨(v 11 0).toNat, by omega⟩
  by_cases h1 : 0 ≤ a ∧ a ≤ 1
  · have hW : ∀ i, i < Y → 0 ≤ v 4 i ∧ v 4 i ≤ 99 := fun i hi => rW_w h.1 i (by omega)
    obtain ⟨v1, w, x, e1, e2⟩ := cr_begin (L := L) (xs := xs) (d := 995) (Y := Y) (v := v) (by omega) hY h.2.2.2.2.2.2.2.2.2
    obtain ⟨v', W', w', x', e3, e4⟩ := lpr_frozen (L := L) (xs := xs) (d := 995) (u := v) (Y := Y) (W := v 4) h.1 (by omega) hW a 61 0 v1 w x (9, 0) (by omega) e2
    have hR := rR_frG h e4
    have k := fun t i => e4.1 t i
    have hW2 : ∀ i, i < Y → 0 ≤ v' 64 (30 + i) ∧ v' 64 (30 + i) ≤ 99 := fun i hi => by
      rw [rM_w hR.1 i (by omega)]
      exact rW_w hR.1 i (by omega)
    have h11 : v' 11 0 = (Y : Int) := by rw [k 11 0 (by omega)]; exact hY
    have hMW := rW_MW hR.1 h11
    obtain ⟨v2, e5, e6⟩ := mr_begin (L := L) (xs := xs) (d := 995) (v := v') (Y := Y) (by omega) hMW.1
    obtain ⟨v3, W3, e7, e8⟩ := lpr_mfrozen (L := L) (xs := xs) (d := 995) (u := v') (Y := Y) hMW hW2 a 61 0 v2 (9, 0) (by omega) e6
    have eq : ∀ m i, i < Y → ntW (v' 13 0) (v' 3) Y (fun i => v' 64 (30 + i)) m i = ntW (v 13 0) (v 3) Y (v 4) m i := by
      rw [k 13 0 (by omega), show v' 3 = v 3 from funext fun t => k 3 t (by omega)]
      exact ntW_cg (fun i hi => (rM_w hR.1 i (by omega)).trans (k 4 i (by omega)))
    refine ⟨frW (ntW (v 13 0) (v 3) Y (v 4)) Y a 61 0, v', v3, ?_, ?_, rR_mrG hR e8⟩
    · rw [e_X11_frozen, b_X11_frozen_0, if_neg (by omega), b_X11_frozen_4, if_neg (by omega), b_X11_frozen_11, e1, qB_some, psh_none, b_X11_frozen_22]
      exact e3
    · rw [e_X12_frozen, b_X12_frozen_0, c_within, qB_some, psh_some, b_X12_frozen_7, zb_0, if_pos h1, b_X12_frozen_12, e5, qB_some, psh_none, b_X12_frozen_16]
      rw [← frW_cg eq 61 0]
      exact e7
  · refine opR_no (r := -1) h ?_ ?_
    · rw [e_X11_frozen, b_X11_frozen_0]
      by_cases h2 : a < 0
      · rw [if_pos h2, b_X11_frozen_9]
      · rw [if_neg h2, b_X11_frozen_4, if_pos (by omega), b_X11_frozen_9]
    · rw [e_X12_frozen, b_X12_frozen_0, c_within, qB_some, psh_some, b_X12_frozen_7, zb_0, if_neg h1, b_X12_frozen_10]
end OP3
end
section
/-! BRICKS in general: rings taken off -/
section OQ3
variable {L : Nat} {xs : Nat → Int} {d : Nat} {v u w : Nat → Nat → Int} {G : Nat → Int} {a b c t : Nat}
/-- the cell t holds G -/
def cel (v : Nat → Nat → Int) (t : Nat) (G : Nat → Int) : Nat → Nat → Int := fun c k => if c = t then G k else v c k
theorem cel_eq (t : Nat) (G : Nat → Int) (k : Nat) : cel v t G t k = G k := if_pos rfl
theorem cel_ne {t c k : Nat} {G : Nat → Int} (h : c ≠ t) : cel v t G c k = v c k := if_neg h
def upG (G : Nat → Int) (q : Nat) (z : Int) : Nat → Int := fun i => if i = q then z else G i
theorem cel_up {t q : Nat} {z : Int} : pm_up (cel v t G) t q z = cel v t (upG G q z) := by
  funext c k
  show (if c = t ∧ k = q then z else if c = t then G k else v c k) = if c = t then (if k = q then z else G k) else v c k
  by_cases h : c = t
  · by_cases h2 : k = q
    · rw [if_pos ⟨h, h2⟩, if_pos h, if_pos h2]
    · rw [if_neg (by omega), if_pos h, if_pos h, if_neg h2]
  · rw [if_neg (by omega), if_neg h, if_neg h]
/-- the least of a ring; the ring taken off -/
def rgM (G : Nat → Int) (p q r : Nat) : Int := pm_min (G p) (pm_min (G q) (G r))
def rgG (G : Nat → Int) (p q r : Nat) : Nat → Int := fun i => if i = p ∨ i = q ∨ i = r then G i - rgM G p q r else G i
theorem rgM_le {p q r : Nat} : rgM G p q r ≤ G p ∧ rgM G p q r ≤ G q ∧ rgM G p q r ≤ G r ∧ (rgM G p q r = G p ∨ rgM G p q r = G q ∨ rgM G p q r = G r) := by
  unfold rgM pm_min
  split <;> split <;> omega
theorem rgG_up {p q r : Nat} (h1 : p ≠ q) (h2 : q ≠ r) (h3 : p ≠ r) : upG (upG (upG G p (G p - rgM G p q r)) q (G q - rgM G p q r)) r (G r - rgM G p q r) = rgG G p q r := by
  funext i
  unfold upG rgG
  by_cases e3 : i = r
  · rw [if_pos e3, if_pos (by omega), e3]
  · rw [if_neg e3]
    by_cases e2 : i = q
    · rw [if_pos e2, if_pos (by omega), e2]
    · rw [if_neg e2]
      by_cases e1 : i = p
      · rw [if_pos e1, if_pos (by omega), e1]
      · rw [if_neg e1, if_neg (by omega)]
def Gd (G : Nat → Int) : Prop := (∀ i, i < 36 → 0 ≤ G i ∧ G i ≤ 999) ∧ ∀ a, a < 6 → G (7 * a) = 0
def pcG (G : Nat → Int) : Nat → Nat
  | 0 => 0
  | n + 1 => pcG G n + if 0 < G n then 1 else 0
theorem pcG_le {G' : Nat → Int} : ∀ n, (∀ i, i < n → 0 < G' i → 0 < G i) → pcG G' n ≤ pcG G n
  | 0, _ => Nat.le_refl _
  | n + 1, h => by
    have ih := pcG_le n (fun i hi => h i (by omega))
    have hn := h n (by omega)
    unfold pcG
    by_cases g : 0 < G' n
    · rw [if_pos g, if_pos (hn g)]
      omega
    · rw [if_neg g]
      omega
theorem pcG_lt {G' : Nat → Int} {q : Nat} (hq : 0 < G q) (hq' : ¬ 0 < G' q) : ∀ n, (∀ i, i < n → 0 < G' i → 0 < G i) → q < n → pcG G' n < pcG G n
  | 0, _, hn => absurd hn (by omega)
  | n + 1, h, hn => by
    by_cases g : q = n
    · have le := pcG_le n (fun i hi => h i (by omega))
      subst g
      unfold pcG
      rw [if_pos hq, if_neg hq']
      omega
    · have ih := pcG_lt hq hq' n (fun i hi => h i (by omega)) (by omega)
      have hn2 := h n (by omega)
      unfold pcG
      by_cases g : 0 < G' n
      · rw [if_pos g, if_pos (hn2 g)]
        omega
      · rw [if_neg g]
        omega
theorem pcG_n : ∀ n, pcG G n ≤ n
  | 0 => Nat.le_refl _
  | n + 1 => by
    have ih := pcG_n n
    unfold pcG
    split <;> omega
/-- a ring is one of three unlike owners -/
theorem rg_un (h : Gd G) (ha : a < 6) (hb : b < 6) (hc : c < 6) (hm : 0 < rgM G (6 * a + b) (6 * b + c) (6 * c + a)) : a ≠ b ∧ b ≠ c ∧ c ≠ a := by
  obtain ⟨l1, l2, l3, -⟩ := rgM_le (G := G) (p := 6 * a + b) (q := 6 * b + c) (r := 6 * c + a)
  refine ⟨fun e => ?_, fun e => ?_, fun e => ?_⟩
  · have := h.2 a ha
    rw [show 6 * a + b = 7 * a by omega] at l1 hm
    omega
  · have := h.2 b hb
    rw [show 6 * b + c = 7 * b by omega] at l2 hm
    omega
  · have := h.2 c hc
    rw [show 6 * c + a = 7 * c by omega] at l3 hm
    omega
theorem rg_gd (h : Gd G) (ha : a < 6) (hb : b < 6) (hc : c < 6) (hm : 0 < rgM G (6 * a + b) (6 * b + c) (6 * c + a)) : Gd (rgG G (6 * a + b) (6 * b + c) (6 * c + a)) ∧ pcG (rgG G (6 * a + b) (6 * b + c) (6 * c + a)) 36 < pcG G 36 := by
  obtain ⟨u1, u2, u3⟩ := rg_un h ha hb hc hm
  obtain ⟨l1, l2, l3, l4⟩ := rgM_le (G := G) (p := 6 * a + b) (q := 6 * b + c) (r := 6 * c + a)
  have val : ∀ i, i < 36 → 0 ≤ rgG G (6 * a + b) (6 * b + c) (6 * c + a) i ∧ rgG G (6 * a + b) (6 * b + c) (6 * c + a) i ≤ G i := fun i hi => by
    unfold rgG
    by_cases g : i = 6 * a + b ∨ i = 6 * b + c ∨ i = 6 * c + a
    · rw [if_pos g]
      rcases g with g | g | g
      · rw [g]; omega
      · rw [g]; omega
      · rw [g]; omega
    · rw [if_neg g]
      have := h.1 i hi
      omega
  refine ⟨⟨fun i hi => ?_, fun x hx => ?_⟩, ?_⟩
  · have h1 := val i hi
    have h2 := h.1 i hi
    omega
  · unfold rgG
    rw [if_neg (by omega)]
    exact h.2 x hx
  · have mono : ∀ i, i < 36 → 0 < rgG G (6 * a + b) (6 * b + c) (6 * c + a) i → 0 < G i := fun i hi q => by
      have h1 := val i hi
      omega
    rcases l4 with l4 | l4 | l4
    · exact pcG_lt (q := 6 * a + b) (by omega) (by unfold rgG; rw [if_pos (by omega)]; omega) 36 mono (by omega)
    · exact pcG_lt (q := 6 * b + c) (by omega) (by unfold rgG; rw [if_pos (by omega)]; omega) 36 mono (by omega)
    · exact pcG_lt (q := 6 * c + a) (by omega) (by unfold rgG; rw [if_pos (by omega)]; omega) 36 mono (by omega)
/-- the first ring, looked for -/
def s3 (G : Nat → Int) (a b : Nat) : Nat → Nat → Option (Nat → Int)
  | 0, _ => none
  | n + 1, c => if 0 < rgM G (6 * a + b) (6 * b + c) (6 * c + a) then some (rgG G (6 * a + b) (6 * b + c) (6 * c + a)) else s3 G a b n (c + 1)
def s2 (G : Nat → Int) (a : Nat) : Nat → Nat → Option (Nat → Int)
  | 0, _ => none
  | n + 1, b => if (s3 G a b 6 0).isSome then s3 G a b 6 0 else s2 G a n (b + 1)
def s1 (G : Nat → Int) : Nat → Nat → Option (Nat → Int)
  | 0, _ => none
  | n + 1, a => if (s2 G a 6 0).isSome then s2 G a 6 0 else s1 G n (a + 1)
theorem s3_gd (h : Gd G) (ha : a < 6) (hb : b < 6) : ∀ n c, c + n = 6 → ∀ g, s3 G a b n c = some g → Gd g ∧ pcG g 36 < pcG G 36
  | 0, c, _, g, hg => by exact absurd hg (by unfold s3; exact fun q => nomatch q)
  | n + 1, c, hc, g, hg => by
    unfold s3 at hg
    by_cases q : 0 < rgM G (6 * a + b) (6 * b + c) (6 * c + a)
    · rw [if_pos q] at hg
      rw [← Option.some.inj hg]
      exact rg_gd h ha hb (by omega) q
    · rw [if_neg q] at hg
      exact s3_gd h ha hb n (c + 1) (by omega) g hg
theorem s2_gd (h : Gd G) (ha : a < 6) : ∀ n b, b + n = 6 → ∀ g, s2 G a n b = some g → Gd g ∧ pcG g 36 < pcG G 36
  | 0, b, _, g, hg => by exact absurd hg (by unfold s2; exact fun q => nomatch q)
  | n + 1, b, hb, g, hg => by
    unfold s2 at hg
    by_cases q : (s3 G a b 6 0).isSome
    · rw [if_pos q] at hg
      exact s3_gd h ha (by omega) 6 0 (by omega) g hg
    · rw [if_neg q] at hg
      exact s2_gd h ha n (b + 1) (by omega) g hg
theorem s1_gd (h : Gd G) : ∀ n a, a + n = 6 → ∀ g, s1 G n a = some g → Gd g ∧ pcG g 36 < pcG G 36
  | 0, b, _, g, hg => by exact absurd hg (by unfold s1; exact fun q => nomatch q)
  | n + 1, a, ha, g, hg => by
    unfold s1 at hg
    by_cases q : (s2 G a 6 0).isSome
    · rw [if_pos q] at hg
      exact s2_gd h (by omega) 6 0 (by omega) g hg
    · rw [if_neg q] at hg
      exact s1_gd h n (a + 1) (by omega) g hg
/-- rings taken off, so many at most -/
def itG : Nat → (Nat → Int) → Nat → Int
  | 0, G => G
  | n + 1, G => match s1 G 6 0 with
    | some g => itG n g
    | none => G
/-! the class -/
theorem cr_ring (h : Gd G) (ha : a < 6) (hb : b < 6) (hc : c < 6) : qE L xs (d + 1) nX2_clearRing [(2, 41), (0, ((6 * a + b : Nat) : Int)), (0, ((6 * b + c : Nat) : Int)), (0, ((6 * c + a : Nat) : Int))] (qS (cel v 43 G)) = if 0 < rgM G (6 * a + b) (6 * b + c) (6 * c + a) then some (some (0, 1), qS (cel v 43 (rgG G (6 * a + b) (6 * b + c) (6 * c + a)))) else some (some (0, 0), qS (cel v 43 G)) := by
  have gp := h.1 (6 * a + b) (by omega)
  have gq := h.1 (6 * b + c) (by omega)
  have gr := h.1 (6 * c + a) (by omega)
  obtain ⟨l1, l2, l3, l4⟩ := rgM_le (G := G) (p := 6 * a + b) (q := 6 * b + c) (r := 6 * c + a)
  conv => lhs; rw [e_X2_clearRing_41, b_X2_clearRing_41_0, if_pos (by omega), Int.toNat_natCast, b_X2_clearRing_41_6, if_pos (by omega), Int.toNat_natCast, b_X2_clearRing_41_12, if_pos (by omega), Int.toNat_natCast, b_X2_clearRing_41_18, cel_eq, cel_eq, cel_eq, show pm_min (G (6 * a + b)) (pm_min (G (6 * b + c)) (G (6 * c + a))) = rgM G (6 * a + b) (6 * b + c) (6 * c + a) from rfl]
  by_cases g : 0 < rgM G (6 * a + b) (6 * b + c) (6 * c + a)
  · obtain ⟨u1, u2, u3⟩ := rg_un h ha hb hc g
    have e1 : upG G (6 * a + b) (G (6 * a + b) - rgM G (6 * a + b) (6 * b + c) (6 * c + a)) (6 * b + c) = G (6 * b + c) := if_neg (by omega)
    have e2 : upG (upG G (6 * a + b) (G (6 * a + b) - rgM G (6 * a + b) (6 * b + c) (6 * c + a))) (6 * b + c) (G (6 * b + c) - rgM G (6 * a + b) (6 * b + c) (6 * c + a)) (6 * c + a) = G (6 * c + a) := (if_neg (by omega)).trans (if_neg (by omega))
    rw [if_pos g, if_pos g, b_X2_clearRing_41_33, if_pos (by omega), Int.toNat_natCast, cel_eq, b_X2_clearRing_41_40, if_pos (by omega), Int.toNat_natCast, w32_id (by omega) (by omega), cel_up, b_X2_clearRing_41_44, if_pos (by omega), Int.toNat_natCast, cel_eq, e1, b_X2_clearRing_41_51, if_pos (by omega), Int.toNat_natCast, w32_id (by omega) (by omega), cel_up, b_X2_clearRing_41_55, if_pos (by omega), Int.toNat_natCast, cel_eq, e2, b_X2_clearRing_41_62, if_pos (by omega), Int.toNat_natCast, w32_id (by omega) (by omega), cel_up, rgG_up (by omega) (by omega) (by omega), b_X2_clearRing_41_66]
  · rw [if_neg g, if_neg g, b_X2_clearRing_41_31]
theorem lpr_ring3 (h : Gd G) (ha : a < 6) (hb : b < 6) : ∀ n c, c + n = 6 → (∀ g, s3 G a b n c = some g → qG L xs (d + 1) CX2_clearFirstRing 18 [(2, 41), (0, (a : Int)), (0, (b : Int)), (0, (c : Int))] [] (qS (cel v 43 G)) = some (some (0, 1), qS (cel v 43 g))) ∧ (s3 G a b n c = none → qG L xs (d + 1) CX2_clearFirstRing 18 [(2, 41), (0, (a : Int)), (0, (b : Int)), (0, (c : Int))] [] (qS (cel v 43 G)) = qG L xs (d + 1) CX2_clearFirstRing 57 [(2, 41), (0, (a : Int)), (0, (b : Int)), (0, 6)] [] (qS (cel v 43 G)))
  | 0, c, hc => by
    refine ⟨fun g hg => absurd hg (by unfold s3; exact fun q => nomatch q), fun _ => ?_⟩
    rw [b_X2_clearFirstRing_41_18, if_neg (by omega), show (c : Int) = 6 by omega]
  | n + 1, c, hc => by
    have ih := lpr_ring3 h ha hb n (c + 1) (by omega)
    rw [show ((c + 1 : Nat) : Int) = (c : Int) + 1 by omega] at ih
    rw [b_X2_clearFirstRing_41_18, if_pos (by omega), b_X2_clearFirstRing_41_24, w32_id (z := (a : Int) * 6) (by omega) (by omega), w32_id (z := (b : Int) * 6) (by omega) (by omega), w32_id (z := (c : Int) * 6) (by omega) (by omega), w32_id (by omega) (by omega), w32_id (by omega) (by omega), w32_id (by omega) (by omega), show (a : Int) * 6 + b = ((6 * a + b : Nat) : Int) by omega, show (b : Int) * 6 + c = ((6 * b + c : Nat) : Int) by omega, show (c : Int) * 6 + a = ((6 * c + a : Nat) : Int) by omega, cr_ring h ha hb (by omega)]
    unfold s3
    by_cases g : 0 < rgM G (6 * a + b) (6 * b + c) (6 * c + a)
    · rw [if_pos g, if_pos g]
      refine ⟨fun x hx => ?_, fun q => nomatch q⟩
      rw [← Option.some.inj hx, qB_some, psh_some, b_X2_clearFirstRing_41_46, if_neg (by decide), b_X2_clearFirstRing_41_49]
    · rw [if_neg g, if_neg g, qB_some, psh_some, b_X2_clearFirstRing_41_46, if_pos rfl, b_X2_clearFirstRing_41_51, w32_id (by omega) (by omega)]
      exact ih
theorem lpr_ring2 (h : Gd G) (ha : a < 6) : ∀ n b, b + n = 6 → ∀ u3 : pm_V, (∀ g, s2 G a n b = some g → qG L xs (d + 1) CX2_clearFirstRing 10 [(2, 41), (0, (a : Int)), (0, (b : Int)), u3] [] (qS (cel v 43 G)) = some (some (0, 1), qS (cel v 43 g))) ∧ (s2 G a n b = none → ∃ w3, qG L xs (d + 1) CX2_clearFirstRing 10 [(2, 41), (0, (a : Int)), (0, (b : Int)), u3] [] (qS (cel v 43 G)) = qG L xs (d + 1) CX2_clearFirstRing 63 [(2, 41), (0, (a : Int)), (0, 6), w3] [] (qS (cel v 43 G)))
  | 0, b, hb, u3 => by
    refine ⟨fun g hg => absurd hg (by unfold s2; exact fun q => nomatch q), fun _ => ⟨u3, ?_⟩⟩
    rw [b_X2_clearFirstRing_41_10, if_neg (by omega), show (b : Int) = 6 by omega]
  | n + 1, b, hb, u3 => by
    have ih := lpr_ring2 h ha n (b + 1) (by omega) (0, 6)
    have l3 := lpr_ring3 (L := L) (xs := xs) (d := d) (v := v) h ha (show b < 6 by omega) 6 0 (by omega)
    rw [show ((b + 1 : Nat) : Int) = (b : Int) + 1 by omega] at ih
    rw [show ((0 : Nat) : Int) = 0 from rfl] at l3
    rw [b_X2_clearFirstRing_41_10, if_pos (by omega), b_X2_clearFirstRing_41_16]
    unfold s2
    by_cases g : (s3 G a b 6 0).isSome
    · rw [if_pos g]
      refine ⟨fun x hx => l3.1 x hx, fun q => ?_⟩
      rw [q] at g
      exact nomatch g
    · rw [if_neg g, l3.2 (by revert g; cases s3 G a b 6 0 <;> simp), b_X2_clearFirstRing_41_57, w32_id (by omega) (by omega)]
      exact ih
theorem lpr_ring1 (h : Gd G) : ∀ n a, a + n = 6 → ∀ u2 u3 : pm_V, (∀ g, s1 G n a = some g → qG L xs (d + 1) CX2_clearFirstRing 2 [(2, 41), (0, (a : Int)), u2, u3] [] (qS (cel v 43 G)) = some (some (0, 1), qS (cel v 43 g))) ∧ (s1 G n a = none → qG L xs (d + 1) CX2_clearFirstRing 2 [(2, 41), (0, (a : Int)), u2, u3] [] (qS (cel v 43 G)) = some (some (0, 0), qS (cel v 43 G)))
  | 0, a, ha, u2, u3 => by
    refine ⟨fun g hg => absurd hg (by unfold s1; exact fun q => nomatch q), fun _ => ?_⟩
    rw [b_X2_clearFirstRing_41_2, if_neg (by omega), b_X2_clearFirstRing_41_69]
  | n + 1, a, ha, u2, u3 => by
    have l2 := lpr_ring2 (L := L) (xs := xs) (d := d) (v := v) h (show a < 6 by omega) 6 0 (by omega) u3
    rw [show ((0 : Nat) : Int) = 0 from rfl] at l2
    rw [b_X2_clearFirstRing_41_2, if_pos (by omega), b_X2_clearFirstRing_41_8]
    unfold s1
    by_cases g : (s2 G a 6 0).isSome
    · rw [if_pos g]
      refine ⟨fun x hx => l2.1 x hx, fun q => ?_⟩
      rw [q] at g
      exact nomatch g
    · obtain ⟨w3, e⟩ := l2.2 (by revert g; cases s2 G a 6 0 <;> simp)
      have ih := lpr_ring1 h n (a + 1) (by omega) (0, 6) w3
      rw [show ((a + 1 : Nat) : Int) = (a : Int) + 1 by omega] at ih
      rw [if_neg g, e, b_X2_clearFirstRing_41_63, w32_id (by omega) (by omega)]
      exact ih
theorem lpr_clear (x1 x2 : Int) : ∀ (n j : Nat) (G : Nat → Int), j + n = 36 → Gd G → ∃ x3 x4 : Int, qG L xs (d + 2) CX2_lentWhenCleared 23 [(2, 41), (0, x1), (0, x2), (0, 1), (0, (j : Int))] [] (qS (cel v 43 G)) = qG L xs (d + 2) CX2_lentWhenCleared 48 [(2, 41), (0, x1), (0, x2), (0, x3), (0, x4)] [] (qS (cel v 43 (itG n G)))
  | 0, j, G, hj, hG => by
    refine ⟨1, (j : Int), ?_⟩
    rw [b_X2_lentWhenCleared_41_23, if_neg (by omega)]
    rfl
  | n + 1, j, G, hj, hG => by
    have l1 := lpr_ring1 (L := L) (xs := xs) (d := d) (v := v) hG 6 0 (by omega) (9, 0) (9, 0)
    rw [show ((0 : Nat) : Int) = 0 from rfl] at l1
    rw [b_X2_lentWhenCleared_41_23, if_pos (by omega), b_X2_lentWhenCleared_41_33, if_neg (by omega), b_X2_lentWhenCleared_41_37, e_X2_clearFirstRing_41, b_X2_clearFirstRing_41_0]
    cases hs : s1 G 6 0 with
    | none =>
      refine ⟨0, (j : Int) + 1, ?_⟩
      have ei : itG (n + 1) G = G := by
        show (match s1 G 6 0 with | some g => itG n g | none => G) = G
        rw [hs]
      rw [l1.2 hs, qB_some, psh_some, b_X2_lentWhenCleared_41_41, w32_id (by omega) (by omega), b_X2_lentWhenCleared_41_23, ei]
      by_cases q : (j : Int) + 1 < 36
      · rw [if_pos q, b_X2_lentWhenCleared_41_33, if_pos rfl]
      · rw [if_neg q]
    | some g =>
      obtain ⟨x3, x4, e⟩ := lpr_clear x1 x2 n (j + 1) g (by omega) (s1_gd hG 6 0 (by omega) g hs).1
      rw [show ((j + 1 : Nat) : Int) = (j : Int) + 1 by omega] at e
      refine ⟨x3, x4, ?_⟩
      have ei : itG (n + 1) G = itG n g := by
        show (match s1 G 6 0 with | some g => itG n g | none => G) = itG n g
        rw [hs]
      rw [l1.1 g hs, qB_some, psh_some, b_X2_lentWhenCleared_41_41, w32_id (by omega) (by omega), ei]
      exact e
end OQ3
end
section
/-! bricks keeps the relation -/
section OR3
variable {L : Nat} {xs : Nat → Int} {d : Nat} {v u w : Nat → Nat → Int} {G G' : Nat → Int} {a b c t : Nat}
theorem mr_ring3 (h : Gd G) (ha : a < 6) (hb : b < 6) : ∀ n c, c + n = 6 → ∀ u4 u5 u6 : pm_V, (∀ g, s3 G a b n c = some g → qG L xs d CX12_clears 18 [(2, 63), (0, (a : Int)), (0, (b : Int)), (0, (c : Int)), u4, u5, u6, (9, 0)] [] (qS (cel v 80 G)) = some (some (0, 1), qS (cel v 80 g))) ∧ (s3 G a b n c = none → ∃ w4 w5 w6, qG L xs d CX12_clears 18 [(2, 63), (0, (a : Int)), (0, (b : Int)), (0, (c : Int)), u4, u5, u6, (9, 0)] [] (qS (cel v 80 G)) = qG L xs d CX12_clears 166 [(2, 63), (0, (a : Int)), (0, (b : Int)), (0, 6), w4, w5, w6, (9, 0)] [] (qS (cel v 80 G)))
  | 0, c, hc, u4, u5, u6 => by
    refine ⟨fun g hg => absurd hg (by unfold s3; exact fun q => nomatch q), fun _ => ⟨u4, u5, u6, ?_⟩⟩
    rw [b_X12_clears_18, if_neg (by omega), show (c : Int) = 6 by omega]
  | n + 1, c, hc, u4, u5, u6 => by
    have gp := h.1 (6 * a + b) (by omega)
    have gq := h.1 (6 * b + c) (by omega)
    have gr := h.1 (6 * c + a) (by omega)
    obtain ⟨l1, l2, l3, l4⟩ := rgM_le (G := G) (p := 6 * a + b) (q := 6 * b + c) (r := 6 * c + a)
    have ih := mr_ring3 h ha hb n (c + 1) (by omega) (0, G (6 * a + b)) (0, G (6 * b + c)) (0, G (6 * c + a))
    rw [show ((c + 1 : Nat) : Int) = (c : Int) + 1 by omega] at ih
    have i1 : w32 (w32 (6 * (a : Int)) + b) = ((6 * a + b : Nat) : Int) := by rw [w32_id (z := 6 * (a : Int)) (by omega) (by omega), w32_id (by omega) (by omega)]; omega
    have i2 : w32 (w32 (6 * (b : Int)) + c) = ((6 * b + c : Nat) : Int) := by rw [w32_id (z := 6 * (b : Int)) (by omega) (by omega), w32_id (by omega) (by omega)]; omega
    have i3 : w32 (w32 (6 * (c : Int)) + a) = ((6 * c + a : Nat) : Int) := by rw [w32_id (z := 6 * (c : Int)) (by omega) (by omega), w32_id (by omega) (by omega)]; omega
    have p1 : 6 * a + b < 36 := by omega
    have p2 : 6 * b + c < 36 := by omega
    have p3 : 6 * c + a < 36 := by omega
    rw [b_X12_clears_18, if_pos (by omega), b_X12_clears_24, i1, if_pos (by omega), Int.toNat_natCast, cel_eq, b_X12_clears_35, i2, if_pos (by omega), Int.toNat_natCast, cel_eq, b_X12_clears_48, i3, if_pos (by omega), Int.toNat_natCast, cel_eq, b_X12_clears_61]
    have sk : ¬ 0 < rgM G (6 * a + b) (6 * b + c) (6 * c + a) → (∀ g, s3 G a b (n + 1) c = some g → qG L xs d CX12_clears 160 [(2, 63), (0, (a : Int)), (0, (b : Int)), (0, (c : Int)), (0, G (6 * a + b)), (0, G (6 * b + c)), (0, G (6 * c + a)), (9, 0)] [] (qS (cel v 80 G)) = some (some (0, 1), qS (cel v 80 g))) ∧ (s3 G a b (n + 1) c = none → ∃ w4 w5 w6, qG L xs d CX12_clears 160 [(2, 63), (0, (a : Int)), (0, (b : Int)), (0, (c : Int)), (0, G (6 * a + b)), (0, G (6 * b + c)), (0, G (6 * c + a)), (9, 0)] [] (qS (cel v 80 G)) = qG L xs d CX12_clears 166 [(2, 63), (0, (a : Int)), (0, (b : Int)), (0, 6), w4, w5, w6, (9, 0)] [] (qS (cel v 80 G))) := fun g => by
      unfold s3
      rw [if_neg g, b_X12_clears_160, w32_id (by omega) (by omega)]
      exact ih
    by_cases g1 : 0 < G (6 * a + b)
    · rw [if_pos g1, b_X12_clears_68]
      by_cases g2 : 0 < G (6 * b + c)
      · rw [if_pos g2, b_X12_clears_73]
        by_cases g3 : 0 < G (6 * c + a)
        · have hm : 0 < rgM G (6 * a + b) (6 * b + c) (6 * c + a) := by omega
          obtain ⟨u1, u2, u3⟩ := rg_un h ha hb (by omega) hm
          have e1 : upG G (6 * a + b) (G (6 * a + b) - rgM G (6 * a + b) (6 * b + c) (6 * c + a)) (6 * b + c) = G (6 * b + c) := if_neg (by omega)
          have e2 : upG (upG G (6 * a + b) (G (6 * a + b) - rgM G (6 * a + b) (6 * b + c) (6 * c + a))) (6 * b + c) (G (6 * b + c) - rgM G (6 * a + b) (6 * b + c) (6 * c + a)) (6 * c + a) = G (6 * c + a) := (if_neg (by omega)).trans (if_neg (by omega))
          have fin : ∀ x7 : Int, qG L xs d CX12_clears 108 [(2, 63), (0, (a : Int)), (0, (b : Int)), (0, (c : Int)), (0, G (6 * a + b)), (0, G (6 * b + c)), (0, G (6 * c + a)), (0, x7)] [(0, rgM G (6 * a + b) (6 * b + c) (6 * c + a))] (qS (cel v 80 G)) = some (some (0, 1), qS (cel v 80 (rgG G (6 * a + b) (6 * b + c) (6 * c + a)))) := fun x7 => by
            rw [b_X12_clears_108, i1, if_pos (by omega), Int.toNat_natCast, cel_eq, b_X12_clears_122, if_pos (by omega), Int.toNat_natCast, w32_id (by omega) (by omega), cel_up, b_X12_clears_126, i2, if_pos (by omega), Int.toNat_natCast, cel_eq, e1, b_X12_clears_138, if_pos (by omega), Int.toNat_natCast, w32_id (by omega) (by omega), cel_up, b_X12_clears_142, i3, if_pos (by omega), Int.toNat_natCast, cel_eq, e2, b_X12_clears_154, if_pos (by omega), Int.toNat_natCast, w32_id (by omega) (by omega), cel_up, rgG_up (by omega) (by omega) (by omega), b_X12_clears_158]
          have fin2 : qG L xs d CX12_clears 78 [(2, 63), (0, (a : Int)), (0, (b : Int)), (0, (c : Int)), (0, G (6 * a + b)), (0, G (6 * b + c)), (0, G (6 * c + a)), (9, 0)] [] (qS (cel v 80 G)) = some (some (0, 1), qS (cel v 80 (rgG G (6 * a + b) (6 * b + c) (6 * c + a)))) := by
            rw [b_X12_clears_78]
            have m1 : rgM G (6 * a + b) (6 * b + c) (6 * c + a) = if (if G (6 * a + b) < G (6 * b + c) then G (6 * a + b) else G (6 * b + c)) < G (6 * c + a) then (if G (6 * a + b) < G (6 * b + c) then G (6 * a + b) else G (6 * b + c)) else G (6 * c + a) := by
              unfold rgM pm_min
              split <;> split <;> split <;> split <;> omega
            by_cases k1 : G (6 * a + b) < G (6 * b + c)
            · rw [if_pos k1] at m1
              rw [if_pos k1, b_X12_clears_85, b_X12_clears_92]
              by_cases k2 : G (6 * a + b) < G (6 * c + a)
              · rw [if_pos k2] at m1
                have f := fin (G (6 * a + b))
                rw [m1] at f
                rw [if_pos k2, b_X12_clears_101]
                exact f
              · rw [if_neg k2] at m1
                have f := fin (G (6 * a + b))
                rw [m1] at f
                rw [if_neg k2, b_X12_clears_106]
                exact f
            · rw [if_neg k1] at m1
              rw [if_neg k1, b_X12_clears_90, b_X12_clears_92]
              by_cases k2 : G (6 * b + c) < G (6 * c + a)
              · rw [if_pos k2] at m1
                have f := fin (G (6 * b + c))
                rw [m1] at f
                rw [if_pos k2, b_X12_clears_101]
                exact f
              · rw [if_neg k2] at m1
                have f := fin (G (6 * b + c))
                rw [m1] at f
                rw [if_neg k2, b_X12_clears_106]
                exact f
          rw [if_pos g3, fin2]
          unfold s3
          rw [if_pos hm]
          exact ⟨fun x hx => by rw [← Option.some.inj hx], fun q => nomatch q⟩
        · rw [if_neg g3]
          exact sk (by omega)
      · rw [if_neg g2]
        have h4 := ih
        unfold s3
        rw [if_neg (show ¬ 0 < rgM G (6 * a + b) (6 * b + c) (6 * c + a) by omega), b_X12_clears_160, w32_id (by omega) (by omega)]
        exact ih
    · rw [if_neg g1]
      unfold s3
      rw [if_neg (show ¬ 0 < rgM G (6 * a + b) (6 * b + c) (6 * c + a) by omega), b_X12_clears_160, w32_id (by omega) (by omega)]
      exact ih
theorem mr_ring2 (h : Gd G) (ha : a < 6) : ∀ n b, b + n = 6 → ∀ u3 u4 u5 u6 : pm_V, (∀ g, s2 G a n b = some g → qG L xs d CX12_clears 10 [(2, 63), (0, (a : Int)), (0, (b : Int)), u3, u4, u5, u6, (9, 0)] [] (qS (cel v 80 G)) = some (some (0, 1), qS (cel v 80 g))) ∧ (s2 G a n b = none → ∃ w3 w4 w5 w6, qG L xs d CX12_clears 10 [(2, 63), (0, (a : Int)), (0, (b : Int)), u3, u4, u5, u6, (9, 0)] [] (qS (cel v 80 G)) = qG L xs d CX12_clears 172 [(2, 63), (0, (a : Int)), (0, 6), w3, w4, w5, w6, (9, 0)] [] (qS (cel v 80 G)))
  | 0, b, hb, u3, u4, u5, u6 => by
    refine ⟨fun g hg => absurd hg (by unfold s2; exact fun q => nomatch q), fun _ => ⟨u3, u4, u5, u6, ?_⟩⟩
    rw [b_X12_clears_10, if_neg (by omega), show (b : Int) = 6 by omega]
  | n + 1, b, hb, u3, u4, u5, u6 => by
    have l3 := mr_ring3 (L := L) (xs := xs) (d := d) (v := v) h ha (show b < 6 by omega) 6 0 (by omega) u4 u5 u6
    rw [show ((0 : Nat) : Int) = 0 from rfl] at l3
    rw [b_X12_clears_10, if_pos (by omega), b_X12_clears_16]
    unfold s2
    by_cases g : (s3 G a b 6 0).isSome
    · rw [if_pos g]
      refine ⟨fun x hx => l3.1 x hx, fun q => ?_⟩
      rw [q] at g
      exact nomatch g
    · obtain ⟨w4, w5, w6, e⟩ := l3.2 (by revert g; cases s3 G a b 6 0 <;> simp)
      have ih := mr_ring2 h ha n (b + 1) (by omega) (0, 6) w4 w5 w6
      rw [show ((b + 1 : Nat) : Int) = (b : Int) + 1 by omega] at ih
      rw [if_neg g, e, b_X12_clears_166, w32_id (by omega) (by omega)]
      exact ih
theorem mr_ring1 (h : Gd G) : ∀ n a, a + n = 6 → ∀ u2 u3 u4 u5 u6 : pm_V, (∀ g, s1 G n a = some g → qG L xs d CX12_clears 2 [(2, 63), (0, (a : Int)), u2, u3, u4, u5, u6, (9, 0)] [] (qS (cel v 80 G)) = some (some (0, 1), qS (cel v 80 g))) ∧ (s1 G n a = none → qG L xs d CX12_clears 2 [(2, 63), (0, (a : Int)), u2, u3, u4, u5, u6, (9, 0)] [] (qS (cel v 80 G)) = some (some (0, 0), qS (cel v 80 G)))
  | 0, a, ha, u2, u3, u4, u5, u6 => by
    refine ⟨fun g hg => absurd hg (by unfold s1; exact fun q => nomatch q), fun _ => ?_⟩
    rw [b_X12_clears_2, if_neg (by omega), b_X12_clears_178]
  | n + 1, a, ha, u2, u3, u4, u5, u6 => by
    have l2 := mr_ring2 (L := L) (xs := xs) (d := d) (v := v) h (show a < 6 by omega) 6 0 (by omega) u3 u4 u5 u6
    rw [show ((0 : Nat) : Int) = 0 from rfl] at l2
    rw [b_X12_clears_2, if_pos (by omega), b_X12_clears_8]
    unfold s1
    by_cases g : (s2 G a 6 0).isSome
    · rw [if_pos g]
      refine ⟨fun x hx => l2.1 x hx, fun q => ?_⟩
      rw [q] at g
      exact nomatch g
    · obtain ⟨w3, w4, w5, w6, e⟩ := l2.2 (by revert g; cases s2 G a 6 0 <;> simp)
      have ih := mr_ring1 h n (a + 1) (by omega) (0, 6) w3 w4 w5 w6
      rw [show ((a + 1 : Nat) : Int) = (a : Int) + 1 by omega] at ih
      rw [if_neg g, e, b_X12_clears_172, w32_id (by omega) (by omega)]
      exact ih
theorem mr_clear (x1 x2 x3 : Int) : ∀ (n : Nat) (G : Nat → Int), pcG G 36 ≤ n → Gd G → qG L xs (d + 1) CX12_bricks 142 [(2, 63), (0, x1), (0, x2), (0, x3), (0, 1)] [] (qS (cel v 80 G)) = qG L xs (d + 1) CX12_bricks 156 [(2, 63), (0, x1), (0, x2), (0, x3), (0, 0)] [] (qS (cel v 80 (itG n G))) := by
  intro n
  induction n with
  | zero =>
    intro G hn hG
    have l1 := mr_ring1 (L := L) (xs := xs) (d := d) (v := v) hG 6 0 (by omega) (9, 0) (9, 0) (9, 0) (9, 0) (9, 0)
    rw [show ((0 : Nat) : Int) = 0 from rfl] at l1
    rw [b_X12_bricks_142, if_neg (by omega), b_X12_bricks_147, e_X12_clears, b_X12_clears_0]
    cases hs : s1 G 6 0 with
    | none => rw [l1.2 hs, qB_some, psh_some, b_X12_bricks_151, b_X12_bricks_142, if_pos rfl]; rfl
    | some g =>
      have := (s1_gd hG 6 0 (by omega) g hs).2
      omega
  | succ n ih =>
    intro G hn hG
    have l1 := mr_ring1 (L := L) (xs := xs) (d := d) (v := v) hG 6 0 (by omega) (9, 0) (9, 0) (9, 0) (9, 0) (9, 0)
    rw [show ((0 : Nat) : Int) = 0 from rfl] at l1
    rw [b_X12_bricks_142, if_neg (by omega), b_X12_bricks_147, e_X12_clears, b_X12_clears_0]
    cases hs : s1 G 6 0 with
    | none =>
      have ei : itG (n + 1) G = G := by
        show (match s1 G 6 0 with | some g => itG n g | none => G) = G
        rw [hs]
      rw [l1.2 hs, qB_some, psh_some, b_X12_bricks_151, b_X12_bricks_142, if_pos rfl, ei]
    | some g =>
      have gg := s1_gd hG 6 0 (by omega) g hs
      have ei : itG (n + 1) G = itG n g := by
        show (match s1 G 6 0 with | some g => itG n g | none => G) = itG n g
        rw [hs]
      rw [l1.1 g hs, qB_some, psh_some, b_X12_bricks_151, ei]
      exact ih g (by omega) gg.1
/-! only the first 36 count -/
def oE (x y : Option (Nat → Int)) : Prop := (x = none ∧ y = none) ∨ ∃ g g', x = some g ∧ y = some g' ∧ ∀ i, i < 36 → g i = g' i
theorem rgG_cg (h : ∀ i, i < 36 → G i = G' i) {p q r : Nat} (hp : p < 36) (hq : q < 36) (hr : r < 36) : rgM G p q r = rgM G' p q r ∧ ∀ i, i < 36 → rgG G p q r i = rgG G' p q r i := by
  have e : rgM G p q r = rgM G' p q r := by
    unfold rgM
    rw [h p hp, h q hq, h r hr]
  refine ⟨e, fun i hi => ?_⟩
  unfold rgG
  rw [e, h i hi]
theorem s3_cg (h : ∀ i, i < 36 → G i = G' i) (ha : a < 6) (hb : b < 6) : ∀ n c, c + n = 6 → oE (s3 G a b n c) (s3 G' a b n c)
  | 0, _, _ => Or.inl ⟨rfl, rfl⟩
  | n + 1, c, hc => by
    have e := rgG_cg h (p := 6 * a + b) (q := 6 * b + c) (r := 6 * c + a) (by omega) (by omega) (by omega)
    unfold s3
    rw [← e.1]
    by_cases g : 0 < rgM G (6 * a + b) (6 * b + c) (6 * c + a)
    · rw [if_pos g, if_pos g]
      exact Or.inr ⟨_, _, rfl, rfl, e.2⟩
    · rw [if_neg g, if_neg g]
      exact s3_cg h ha hb n (c + 1) (by omega)
theorem s2_cg (h : ∀ i, i < 36 → G i = G' i) (ha : a < 6) : ∀ n b, b + n = 6 → oE (s2 G a n b) (s2 G' a n b)
  | 0, _, _ => Or.inl ⟨rfl, rfl⟩
  | n + 1, b, hb => by
    have ih := s2_cg h ha n (b + 1) (by omega)
    unfold s2
    rcases s3_cg h ha (show b < 6 by omega) 6 0 (by omega) with ⟨e1, e2⟩ | ⟨g, g', e1, e2, e3⟩
    · rw [e1, e2]
      exact ih
    · rw [e1, e2]
      exact Or.inr ⟨g, g', rfl, rfl, e3⟩
theorem s1_cg (h : ∀ i, i < 36 → G i = G' i) : ∀ n a, a + n = 6 → oE (s1 G n a) (s1 G' n a)
  | 0, _, _ => Or.inl ⟨rfl, rfl⟩
  | n + 1, a, ha => by
    have ih := s1_cg h n (a + 1) (by omega)
    unfold s1
    rcases s2_cg h (show a < 6 by omega) 6 0 (by omega) with ⟨e1, e2⟩ | ⟨g, g', e1, e2, e3⟩
    · rw [e1, e2]
      exact ih
    · rw [e1, e2]
      exact Or.inr ⟨g, g', rfl, rfl, e3⟩
theorem itG_cg : ∀ (n : Nat) (G G' : Nat → Int), (∀ i, i < 36 → G i = G' i) → ∀ i, i < 36 → itG n G i = itG n G' i
  | 0, _, _, h => h
  | n + 1, G, G', h => by
    show ∀ i, i < 36 → (match s1 G 6 0 with | some g => itG n g | none => G) i = (match s1 G' 6 0 with | some g => itG n g | none => G') i
    rcases s1_cg h 6 0 (by omega) with ⟨e1, e2⟩ | ⟨g, g', e1, e2, e3⟩
    · rw [e1, e2]
      exact h
    · rw [e1, e2]
      exact itG_cg n g g' e3
end OR3
end
section
/-! bricks keeps the relation -/
section OS3
variable {L : Nat} {xs : Nat → Int} {d : Nat} {v u w : Nat → Nat → Int} {G G' : Nat → Int} {a b c t : Nat}
/-- what is owed to one -/
def owF (G : Nat → Int) (a : Nat) : Nat → Nat → Int → Int
  | 0, _, z => z
  | n + 1, j, z => owF G a n (j + 1) (w32 (z + w32 (G (6 * j + a) - G (6 * a + j))))
theorem owF_cg (h : ∀ i, i < 36 → G i = G' i) (ha : a < 6) : ∀ n j z, j + n = 6 → owF G a n j z = owF G' a n j z
  | 0, _, _, _ => rfl
  | n + 1, j, z, hj => by
    unfold owF
    rw [h _ (by omega), h _ (by omega)]
    exact owF_cg h ha n (j + 1) _ (by omega)
theorem lpr_owed (ha : a < 6) : ∀ (n j : Nat) (z : Int), j + n = 6 → qG L xs (d + 2) CX2_owed 4 [(2, 41), (0, (a : Int)), (0, z), (0, (j : Int))] [] (qS v) = some (some (0, owF (v 42) a n j z), qS v)
  | 0, j, z, hj => by
    rw [b_X2_owed_41_4, if_neg (by omega), b_X2_owed_41_32]
    rfl
  | n + 1, j, z, hj => by
    have h3 := lpr_owed ha n (j + 1) (w32 (z + w32 (v 42 (6 * j + a) - v 42 (6 * a + j)))) (by omega)
    rw [show ((j + 1 : Nat) : Int) = (j : Int) + 1 by omega] at h3
    rw [b_X2_owed_41_4, if_pos (by omega), b_X2_owed_41_10, cd_lent _ _ (by omega) (by omega), qB_some, psh_some, b_X2_owed_41_17, cd_lent _ _ (by omega) (by omega), qB_some, psh_some, b_X2_owed_41_23, w32_id (z := (j : Int) + 1) (by omega) (by omega), show ((j : Int) * 6 + (a : Int)).toNat = 6 * j + a by omega, show ((a : Int) * 6 + (j : Int)).toNat = 6 * a + j by omega]
    exact h3
theorem lpr_mowed (ha : a < 6) (x2 : Int) : ∀ (n j : Nat) (z : Int), j + n = 6 → qG L xs d CX12_bricks 19 [(2, 63), (0, (a : Int)), (0, x2), (0, z), (0, (j : Int))] [] (qS v) = some (some (0, owF (v 79) a n j z), qS v)
  | 0, j, z, hj => by
    rw [b_X12_bricks_19, if_neg (by omega), b_X12_bricks_60]
    rfl
  | n + 1, j, z, hj => by
    have h3 := lpr_mowed ha x2 n (j + 1) (w32 (z + w32 (v 79 (6 * j + a) - v 79 (6 * a + j)))) (by omega)
    rw [show ((j + 1 : Nat) : Int) = (j : Int) + 1 by omega] at h3
    rw [b_X12_bricks_19, if_pos (by omega), b_X12_bricks_26, w32_id (z := 6 * (j : Int)) (by omega) (by omega), w32_id (z := 6 * (j : Int) + a) (by omega) (by omega), if_pos (by omega), b_X12_bricks_39, w32_id (z := 6 * (a : Int)) (by omega) (by omega), w32_id (z := 6 * (a : Int) + j) (by omega) (by omega), if_pos (by omega), b_X12_bricks_51, w32_id (z := (j : Int) + 1) (by omega) (by omega), show (6 * (j : Int) + (a : Int)).toNat = 6 * j + a by omega, show (6 * (a : Int) + (j : Int)).toNat = 6 * a + j by omega]
    exact h3
theorem cpy_cel : pm_cpy v 42 43 0 0 36 = cel v 43 (fun i => if i < 36 then v 42 i else v 43 i) := by
  funext c k
  show (if c = 43 ∧ 0 ≤ k ∧ k < 0 + 36 then v 42 (0 + (k - 0)) else v c k) = if c = 43 then (if k < 36 then v 42 k else v 43 k) else v c k
  by_cases h : c = 43
  · rw [if_pos h]
    by_cases h2 : k < 36
    · rw [if_pos (by omega), if_pos h2, show 0 + (k - 0) = k by omega]
    · rw [if_neg (by omega), if_neg h2, h]
  · rw [if_neg (by omega), if_neg h]
theorem cp_cel : pm_cp v 79 80 0 (0 + 36) = cel v 80 (fun i => if i < 36 then v 79 i else v 80 i) := by
  funext c k
  show (if c = 80 ∧ 0 ≤ k ∧ k < 0 + 36 then v 79 k else v c k) = if c = 80 then (if k < 36 then v 79 k else v 80 k) else v c k
  by_cases h : c = 80
  · rw [if_pos h]
    by_cases h2 : k < 36
    · rw [if_pos (by omega), if_pos h2]
    · rw [if_neg (by omega), if_neg h2, h]
  · rw [if_neg (by omega), if_neg h]
theorem rR_cel (h : rlR v) (ht : t = 43 ∨ t = 80) (G : Nat → Int) : rlR (cel v t G) := by
  refine rlR_cg (fun c j q => cel_ne ?_) h
  unfold dsR dsW dsC dsT dsL dsD dsG dsB dsS dsN at q
  omega
theorem opr_bricks (h : rlR v) (y n : Int) (hy : y < 2147483648) : opR L xs v nX11_bricks nX12_bricks 0 [(0, y), (0, n)] := by
  have hD := h.2.2.2.2.1.1
  have ag : ∀ i, i < 36 → v 42 i = v 79 i := fun i hi => (hD.1 i hi).1.symm
  by_cases n0 : n = 0
  · subst n0
    by_cases g : 0 ≤ y ∧ y < 6
    · obtain ⟨a, rfl⟩ : ∃ a : Nat, y = (a : Int) := ⟨y.toNat, by omega⟩
      have l1 := lpr_owed (L := L) (xs := xs) (d := 996) (v := v) (show a < 6 by omega) 6 0 0 (by omega)
      have l2 := lpr_mowed (L := L) (xs := xs) (d := 999) (v := v) (show a < 6 by omega) 0 6 0 0 (by omega)
      rw [show ((0 : Nat) : Int) = 0 from rfl] at l1 l2
      refine opR_no (r := owF (v 42) a 6 0 0) h ?_ ?_
      · rw [e_X11_bricks, b_X11_bricks_0, if_pos rfl, b_X11_bricks_4, cd_hasOwner, qB_some, psh_some, b_X11_bricks_8, zb_0, if_pos g, b_X11_bricks_11, e_X2_owed_41, b_X2_owed_41_0, l1, qB_some, psh_some, b_X11_bricks_19, b_X11_bricks_24]
      · rw [e_X12_bricks, b_X12_bricks_0, if_pos rfl, b_X12_bricks_4, md_isOwner, qB_some, psh_some, b_X12_bricks_8, zb_0, if_pos g, b_X12_bricks_14, l2, owF_cg ag (show a < 6 by omega) 6 0 0 (by omega)]
    · refine opR_no (r := -2000000000) h ?_ ?_
      · rw [e_X11_bricks, b_X11_bricks_0, if_pos rfl, b_X11_bricks_4, cd_hasOwner, qB_some, psh_some, b_X11_bricks_8, zb_0, if_neg g, b_X11_bricks_22, b_X11_bricks_24]
      · rw [e_X12_bricks, b_X12_bricks_0, if_pos rfl, b_X12_bricks_4, md_isOwner, qB_some, psh_some, b_X12_bricks_8, zb_0, if_neg g, b_X12_bricks_11]
  · have cb : qE L xs 1000 nX11_bricks [(2, 0), (0, y), (0, n)] (qS v) = if 0 ≤ y ∧ y / 10 < 6 ∧ y % 10 < 6 ∧ y / 10 ≠ y % 10 then (if n < 1 then qG L xs 999 CX11_bricks 42 [(2, 0), (0, y), (0, n)] [] (qS v) else if 2 < n then qG L xs 999 CX11_bricks 42 [(2, 0), (0, y), (0, n)] [] (qS v) else qG L xs 999 CX11_bricks 45 [(2, 0), (0, y), (0, n)] [] (qS v)) else qG L xs 999 CX11_bricks 42 [(2, 0), (0, y), (0, n)] [] (qS v) := by
      rw [e_X11_bricks, b_X11_bricks_0, if_neg n0, b_X11_bricks_25, cd_areOwners y hy, qB_some, psh_some, b_X11_bricks_29, zb_0, b_X11_bricks_32, b_X11_bricks_37]
    have mb : ∀ w : Nat → Nat → Int, qE L xs 1000 nX12_bricks [(2, 63), (0, y), (0, n)] (qS w) = if 1 ≤ n ∧ n ≤ 2 then (if 0 ≤ y ∧ y / 10 < 6 ∧ y % 10 < 6 ∧ y / 10 ≠ y % 10 then qG L xs 999 CX12_bricks 84 [(2, 63), (0, y), (0, n), (9, 0), (9, 0)] [] (qS w) else qG L xs 999 CX12_bricks 81 [(2, 63), (0, y), (0, n), (9, 0), (9, 0)] [] (qS w)) else qG L xs 999 CX12_bricks 81 [(2, 63), (0, y), (0, n), (9, 0), (9, 0)] [] (qS w) := fun w => by
      rw [e_X12_bricks, b_X12_bricks_0, if_neg n0, b_X12_bricks_62, c_within, qB_some, psh_some, b_X12_bricks_71, zb_0, b_X12_bricks_74, md_areOwners y hy, qB_some, psh_some, b_X12_bricks_78, zb_0]
    by_cases g : 0 ≤ y ∧ y / 10 < 6 ∧ y % 10 < 6 ∧ y / 10 ≠ y % 10
    · by_cases g2 : 1 ≤ n ∧ n ≤ 2
      · obtain ⟨a, ha⟩ : ∃ a : Nat, y / 10 = (a : Int) := ⟨(y / 10).toNat, by omega⟩
        obtain ⟨b, hb⟩ : ∃ b : Nat, y % 10 = (b : Int) := ⟨(y % 10).toNat, by omega⟩
        have td : y.tdiv 10 = (a : Int) := (td_pos 10 g.1).trans ha
        have tm : y.tmod 10 = (b : Int) := (tm_pos 10 g.1).trans hb
        have mk : w32 (w32 (6 * w32 (y.tdiv 10)) + y.tmod 10) = ((6 * a + b : Nat) : Int) := by
          rw [td, tm, w32_id (z := (a : Int)) (by omega) (by omega), w32_id (z := 6 * (a : Int)) (by omega) (by omega), w32_id (by omega) (by omega)]
          omega
        by_cases n1 : n = 1
        · refine opR_no (r := v 42 (6 * a + b)) h ?_ ?_
          · rw [cb, if_pos g, if_neg (by omega), if_neg (by omega), b_X11_bricks_45, if_pos n1, b_X11_bricks_50, td, tm, w32_id (by omega) (by omega), cd_lent _ _ (by omega) (by omega), qB_some, psh_some, b_X11_bricks_65, b_X11_bricks_83, show ((a : Int) * 6 + (b : Int)).toNat = 6 * a + b by omega]
          · rw [mb, if_pos g2, if_pos g, b_X12_bricks_84, if_pos n1, mk, b_X12_bricks_102, if_pos (by omega), Int.toNat_natCast, b_X12_bricks_108, ag _ (by omega)]
        · have hG : ∀ s : Nat → Int, (∀ i, i < 36 → s i = v 42 i) → Gd s := fun s hs => ⟨fun i hi => by rw [hs i hi]; exact (hD.1 i hi).2, fun x hx => by rw [hs _ (by omega)]; exact hD.2 x hx⟩
          obtain ⟨x3, x4, e1⟩ := lpr_clear (L := L) (xs := xs) (d := 996) (v := v) (a : Int) (b : Int) 36 0 (fun i => if i < 36 then v 42 i else v 43 i) (by omega) (hG _ (fun i hi => if_pos hi))
          rw [show ((0 : Nat) : Int) = 0 from rfl, ← cpy_cel] at e1
          obtain ⟨w1, hw1⟩ : ∃ w1, w1 = cel v 43 (itG 36 (fun i => if i < 36 then v 42 i else v 43 i)) := ⟨_, rfl⟩
          have hR1 : rlR w1 := by rw [hw1]; exact rR_cel h (Or.inl rfl) _
          have e2 := mr_clear (L := L) (xs := xs) (d := 998) (v := w1) y n ((6 * a + b : Nat) : Int) 36 (fun i => if i < 36 then w1 79 i else w1 80 i) (pcG_n 36) (hG _ (fun i hi => by rw [hw1]; exact (if_pos hi).trans ((cel_ne (by omega)).trans (ag i hi).symm)))
          refine ⟨itG 36 (fun i => if i < 36 then v 42 i else v 43 i) (6 * a + b), w1, cel w1 80 (itG 36 (fun i => if i < 36 then w1 79 i else w1 80 i)), ?_, ?_, rR_cel hR1 (Or.inr rfl) _⟩
          · rw [cb, if_pos g, if_neg (by omega), if_neg (by omega), b_X11_bricks_45, if_neg n1, b_X11_bricks_68, td, tm, w32_id (by omega) (by omega)]
            have e3 : qE L xs 999 nX2_lentWhenCleared [(2, 41), (0, (a : Int)), (0, (b : Int))] (qS v) = some (some (0, itG 36 (fun i => if i < 36 then v 42 i else v 43 i) (6 * a + b)), qS w1) := by
              rw [e_X2_lentWhenCleared_41, b_X2_lentWhenCleared_41_0]
              refine (qG_cpy (s := 42) (t := 43) (e := 0) (ns := 36) (nt := 36) rfl rfl rfl rfl (Or.inl rfl) (by omega) (by omega) (by omega) (by omega) (by omega) rfl (nr_of rfl) (nr_of rfl)).trans ?_
              show qG L xs 998 CX2_lentWhenCleared 18 _ _ (qS (pm_cpy v 42 43 0 0 36)) = _
              rw [b_X2_lentWhenCleared_41_18, e1, b_X2_lentWhenCleared_41_48, cd_hasOwner, qB_some, psh_some, b_X2_lentWhenCleared_41_52, zb_0, if_pos (by omega), b_X2_lentWhenCleared_41_55, cd_hasOwner, qB_some, psh_some, b_X2_lentWhenCleared_41_59, zb_0, if_pos (by omega), b_X2_lentWhenCleared_41_62, w32_id (z := (a : Int) * 6) (by omega) (by omega), w32_id (by omega) (by omega), if_pos (by omega), cel_eq, b_X2_lentWhenCleared_41_73, b_X2_lentWhenCleared_41_77, show ((a : Int) * 6 + (b : Int)).toNat = 6 * a + b by omega, ← hw1]
            rw [e3, qB_some, psh_some, b_X11_bricks_83]
          · have l := lp_left (L := L) (xs := xs) (d := 999) y n ((6 * a + b : Nat) : Int) 36 0 w1 (by omega)
            rw [show ((0 : Nat) : Int) = 0 from rfl, cp_cel] at l
            rw [mb, if_pos g2, if_pos g, b_X12_bricks_84, if_neg n1, mk, b_X12_bricks_109, l, b_X12_bricks_139, e2, b_X12_bricks_156, if_pos (by omega), Int.toNat_natCast, cel_eq, b_X12_bricks_162]
            rw [itG_cg 36 (fun i => if i < 36 then w1 79 i else w1 80 i) (fun i => if i < 36 then v 42 i else v 43 i) (fun i hi => by rw [hw1]; exact (if_pos hi).trans ((cel_ne (by omega)).trans ((ag i hi).symm.trans (if_pos hi).symm))) (6 * a + b) (by omega)]
      · refine opR_no (r := -2000000000) h ?_ ?_
        · rw [cb, if_pos g]
          by_cases g3 : n < 1
          · rw [if_pos g3, b_X11_bricks_42]
          · rw [if_neg g3, if_pos (by omega), b_X11_bricks_42]
        · rw [mb, if_neg g2, b_X12_bricks_81]
    · refine opR_no (r := -2000000000) h ?_ ?_
      · rw [cb, if_neg g, b_X11_bricks_42]
      · rw [mb, if_neg g, b_X12_bricks_81, ite_self]
end OS3
end
section
/-! ACT in general: the bodies that run (written by wip/p1/89t.opst.py) -/
section OT3
variable {L : Nat} {xs : Nat → Int} {d : Nat} {v u w : Nat → Nat → Int}
/-- the KIND's own body of the ACT; the next KIND from k on that has one -/
def bdy (k act : Int) : Int := pm_lof [1, 10, 11, 2, 20, 0, 0, 0, 0, 30, 0, 0, 0, 41, 40, 0, 0, 0, 50, 0, 0, 0, 0, 60, 70, 0, 0, 0, 0, 80, 0, 81] (4 * k + act).toNat
def fdF : Nat → Int → Int → Int
  | 0, k, _ => k
  | n + 1, k, act => if bdy k act = 0 then fdF n (kaI k) act else k
theorem bdy_0 : ∀ k, k < 8 → ∀ t, t < 4 → bdy ((k : Nat) : Int) ((t : Nat) : Int) = 0 → 0 ≤ kaI (k : Int) ∧ kaI (k : Int) < 8 := by decide +kernel
theorem fdF_in : ∀ k, k < 8 → ∀ t, t < 4 → (0 ≤ fdF 8 ((k : Nat) : Int) ((t : Nat) : Int) ∧ fdF 8 ((k : Nat) : Int) ((t : Nat) : Int) < 8) := by decide +kernel
abbrev isB (z : Int) : Prop := z = 1 ∨ z = 2 ∨ z = 10 ∨ z = 11 ∨ z = 20 ∨ z = 30 ∨ z = 40 ∨ z = 41 ∨ z = 50 ∨ z = 60 ∨ z = 70 ∨ z = 80 ∨ z = 81
theorem fdF_B : ∀ k, k < 8 → ∀ t, t < 4 → isB (bdy (fdF 8 ((k : Nat) : Int) ((t : Nat) : Int)) ((t : Nat) : Int)) := by decide +kernel
/-- the value of a body, by those it runs -/
def acW (own b : Int) (f : Int → Int → Int → Int) (B a x : Int) : Int :=
  if B = 1 then w32 (x + b) else if B = 2 then w32 (f own 1 x - f own 2 1) else if B = 10 then w32 (f own 0 x * 2) else if B = 11 then pm_xor x b else if B = 20 then w32 (f a 0 x + 3) else if B = 30 then w32 (-(f a 1 x)) else if B = 40 then w32 (f a 2 x * 3) else if B = 41 then f a 1 (w32 (x + 1)) else if B = 50 then w32 (f a 2 x - f own 0 2) else if B = 60 then pm_xor (f a 3 x) 5 else if B = 70 then w32 (f a 0 x * 2) else if B = 80 then w32 (f a 1 x + f own 2 2) else w32 (f a 3 x - 1)
def acV (own b : Int) : Nat → Int → Int → Int → Int
  | 0, _, _, _ => 0
  | n + 1, k, t, x => acW own b (acV own b n) (bdy (fdF 8 k t) t) (kaI (fdF 8 k t)) x
/-- the bodies that it runs, itself ahead -/
def acX (own : Int) (f : Int → Int → List Int) (B a : Int) : List Int :=
  B :: (if B = 1 ∨ B = 11 then [] else if B = 2 then f own 1 ++ f own 2 else if B = 10 then f own 0 else if B = 20 ∨ B = 70 then f a 0 else if B = 30 ∨ B = 41 then f a 1 else if B = 40 then f a 2 else if B = 50 then f a 2 ++ f own 0 else if B = 80 then f a 1 ++ f own 2 else f a 3)
def acL (own : Int) : Nat → Int → Int → List Int
  | 0, _, _ => []
  | n + 1, k, t => acX own (acL own n) (bdy (fdF 8 k t) t) (kaI (fdF 8 k t))
/-- so deep is enough -/
def acZ (own : Int) (f : Int → Int → Bool) (B a : Int) : Bool :=
  if B = 1 ∨ B = 11 then true else if B = 2 then f own 1 && f own 2 else if B = 10 then f own 0 else decide (0 ≤ a ∧ a < 8) && (if B = 20 ∨ B = 70 then f a 0 else if B = 30 ∨ B = 41 then f a 1 else if B = 40 then f a 2 else if B = 50 then f a 2 && f own 0 else if B = 80 then f a 1 && f own 2 else f a 3)
def acE (own : Int) : Nat → Int → Int → Bool
  | 0, _, _ => false
  | n + 1, k, t => acZ own (acE own n) (bdy (fdF 8 k t) t) (kaI (fdF 8 k t))
theorem acE_10 : ∀ o, o < 8 → ∀ k, k < 8 → ∀ t, t < 4 → acE ((o : Nat) : Int) 10 ((k : Nat) : Int) ((t : Nat) : Int) = true := by decide +kernel
theorem acL_10 : ∀ o, o < 8 → ∀ k, k < 8 → ∀ t, t < 4 → (acL ((o : Nat) : Int) 10 ((k : Nat) : Int) ((t : Nat) : Int)).length ≤ 1000 := by decide +kernel
/-- a body written down -/
def nC (u : Nat → Nat → Int) (B : Int) : Nat → Nat → Int := pm_up (if u 49 3 < 24 then pm_up u 51 (u 49 3).toNat B else u) 49 3 (u 49 3 + 1)
def nM (u : Nat → Nat → Int) (B : Int) : Nat → Nat → Int := pm_up (if u 63 42 < 24 then pm_up u 85 (u 63 42).toNat B else u) 63 42 (u 63 42 + 1)
def nCs (u : Nat → Nat → Int) (l : List Int) : Nat → Nat → Int := l.foldl nC u
def nMs (u : Nat → Nat → Int) (l : List Int) : Nat → Nat → Int := l.foldl nM u
theorem nC_ne {B : Int} {c j : Nat} (h1 : ¬ (c = 49 ∧ j = 3)) (h2 : c ≠ 51) : nC u B c j = u c j := by
  unfold nC
  rw [up_ne (by omega)]
  by_cases g : u 49 3 < 24
  · rw [if_pos g, up_ne (by omega)]
  · rw [if_neg g]
theorem nM_ne {B : Int} {c j : Nat} (h1 : ¬ (c = 63 ∧ j = 42)) (h2 : c ≠ 85) : nM u B c j = u c j := by
  unfold nM
  rw [up_ne (by omega)]
  by_cases g : u 63 42 < 24
  · rw [if_pos g, up_ne (by omega)]
  · rw [if_neg g]
theorem nCs_ne {c j : Nat} (h1 : ¬ (c = 49 ∧ j = 3)) (h2 : c ≠ 51) : ∀ (l : List Int) (u : Nat → Nat → Int), nCs u l c j = u c j
  | [], _ => rfl
  | B :: l, u => (nCs_ne h1 h2 l (nC u B)).trans (nC_ne h1 h2)
theorem nMs_ne {c j : Nat} (h1 : ¬ (c = 63 ∧ j = 42)) (h2 : c ≠ 85) : ∀ (l : List Int) (u : Nat → Nat → Int), nMs u l c j = u c j
  | [], _ => rfl
  | B :: l, u => (nMs_ne h1 h2 l (nM u B)).trans (nM_ne h1 h2)
theorem nCs_n : ∀ (l : List Int) (u : Nat → Nat → Int), nCs u l 49 3 = u 49 3 + l.length
  | [], u => by
    show u 49 3 = u 49 3 + ((0 : Nat) : Int)
    omega
  | B :: l, u => by
    have := nCs_n l (nC u B)
    have e : nC u B 49 3 = u 49 3 + 1 := up_eq _ _ _ _
    show nCs (nC u B) l 49 3 = u 49 3 + ((l.length + 1 : Nat) : Int)
    omega
theorem nMs_n : ∀ (l : List Int) (u : Nat → Nat → Int), nMs u l 63 42 = u 63 42 + l.length
  | [], u => by
    show u 63 42 = u 63 42 + ((0 : Nat) : Int)
    omega
  | B :: l, u => by
    have := nMs_n l (nM u B)
    have e : nM u B 63 42 = u 63 42 + 1 := up_eq _ _ _ _
    show nMs (nM u B) l 63 42 = u 63 42 + ((l.length + 1 : Nat) : Int)
    omega
theorem nCs_app (u : Nat → Nat → Int) (l m : List Int) : nCs u (l ++ m) = nCs (nCs u l) m := List.foldl_append
theorem nMs_app (u : Nat → Nat → Int) (l m : List Int) : nMs u (l ++ m) = nMs (nMs u l) m := List.foldl_append
theorem cr_wnote (B : Int) (h : 0 ≤ u 49 3 ∧ u 49 3 < 2147483647) : qE L xs (d + 1) nX0_note [(2, 49), (0, B)] (qS u) = some (none, qS (nC u B)) := by
  rw [e_X0_note, b_X0_note_0]
  unfold nC
  by_cases g : u 49 3 < 24
  · rw [if_pos g, if_pos g, b_X0_note_9, if_pos ⟨h.1, g⟩, b_X0_note_19, up_ne (by omega), w32_id (by omega) (by omega), b_X0_note_29]
  · rw [if_neg g, if_neg g, b_X0_note_19, w32_id (by omega) (by omega), b_X0_note_29]
theorem mr_begins (B : Int) (h : 0 ≤ u 63 42 ∧ u 63 42 < 2147483647) : qE L xs (d + 1) nX12_begins [(2, 63), (0, B)] (qS u) = some (none, qS (nM u B)) := by
  rw [e_X12_begins, b_X12_begins_0]
  unfold nM
  by_cases g : u 63 42 < 24
  · rw [if_pos g, if_pos g, b_X12_begins_9, if_pos ⟨h.1, g⟩, b_X12_begins_19, up_ne (by omega), w32_id (by omega) (by omega), b_X12_begins_29]
  · rw [if_neg g, if_neg g, b_X12_begins_19, w32_id (by omega) (by omega), b_X12_begins_29]
/-- the KIND that has the body -/
theorem lpr_fd (x1 x2 x4 x5 : Int) (t : Nat) (ht : t < 4) : ∀ (n j k : Nat), j + n = 8 → k < 8 → ∃ z : Int, qG L xs (d + 2) CX0_run 6 [(2, 49), (0, x1), (0, x2), (0, (t : Int)), (0, x4), (0, x5), (0, (k : Int)), (0, (j : Int))] [] (qS u) = qG L xs (d + 2) CX0_run 49 [(2, 49), (0, x1), (0, x2), (0, (t : Int)), (0, x4), (0, x5), (0, fdF n (k : Int) (t : Int)), (0, z)] [] (qS u)
  | 0, j, k, hj, hk => by
    refine ⟨(j : Int), ?_⟩
    rw [b_X0_run_6, if_neg (by omega)]
    rfl
  | n + 1, j, k, hj, hk => by
    have e : pm_lof [1, 10, 11, 2, 20, 0, 0, 0, 0, 30, 0, 0, 0, 41, 40, 0, 0, 0, 50, 0, 0, 0, 0, 60, 70, 0, 0, 0, 0, 80, 0, 81] (4 * (k : Int) + (t : Int)).toNat = bdy (k : Int) (t : Int) := rfl
    rw [b_X0_run_6, if_pos (by omega), b_X0_run_15, cb_hasKind, qB_some, psh_some, b_X0_run_20, zb_0, if_pos (by omega), b_X0_run_23, w32_id (z := 4 * (k : Int)) (by omega) (by omega), w32_id (by omega) (by omega), if_pos (by omega), e, b_X0_run_33]
    unfold fdF
    by_cases g : bdy (k : Int) (t : Int) = 0
    · have a := bdy_0 k hk t ht g
      obtain ⟨k', hk'⟩ : ∃ k' : Nat, kaI (k : Int) = (k' : Int) := ⟨(kaI (k : Int)).toNat, by omega⟩
      obtain ⟨z, ih⟩ := lpr_fd x1 x2 x4 x5 t ht n (j + 1) k' (by omega) (by omega)
      rw [show ((j + 1 : Nat) : Int) = (j : Int) + 1 by omega] at ih
      refine ⟨z, ?_⟩
      rw [if_pos g, if_pos g, b_X0_run_36, cr_kindAbove _ (by omega), qB_some, psh_some, b_X0_run_41, w32_id (by omega) (by omega), hk']
      exact ih
    · refine ⟨(j : Int), ?_⟩
      rw [if_neg g, if_neg g]
end OT3
end
