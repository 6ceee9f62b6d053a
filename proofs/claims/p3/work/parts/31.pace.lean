/-! PACE and MEET -/
section PA
variable {L : Nat} {xs : Nat → Int} {d : Nat} {v : Nat → Nat → Int} {a b c x y z : Int}
def tri (Y t : Int) : Int := if Y - 1 < t % (2 * (Y - 1)) then 2 * (Y - 1) - t % (2 * (Y - 1)) else t % (2 * (Y - 1))
theorem c_turningAt (h1 : 2 ≤ v 11 0) (h2 : v 11 0 ≤ 30) (t : Int) (ht : 0 ≤ t) : qE L xs (d + 2) nX11_turningAt [(2, 0), (0, t)] (qS v) = some (some (0, tri (v 11 0) t), qS v) := by
  have r1 := Int.emod_nonneg t (show 2 * (v 11 0 - 1) ≠ 0 by omega)
  have r2 := Int.emod_lt_of_pos t (show 0 < 2 * (v 11 0 - 1) by omega)
  unfold tri
  by_cases h : v 11 0 - 1 < t % (2 * (v 11 0 - 1))
  · simp (disch := omega) only [e_X11_turningAt, b_X11_turningAt_0, b_X11_turningAt_7, b_X11_turningAt_14, b_X11_turningAt_19, b_X11_turningAt_22, b_X11_turningAt_23, b_X11_turningAt_29, b_X11_turningAt_33, b_X11_turningAt_38, c_yardsNow, w32_id, if_pos, if_neg, tm_pos, qB_some, psh_some, psh_none, and_true, true_and, and_false, false_and, and_self, or_true, true_or, or_false, false_or, not_true_eq_false, not_false_eq_true, ↓reduceIte, Int.reduceEq, Int.reduceLT, Int.reduceLE, Int.reduceToNat, Nat.reduceEqDiff, Nat.reduceAdd]
  · simp (disch := omega) only [e_X11_turningAt, b_X11_turningAt_0, b_X11_turningAt_7, b_X11_turningAt_14, b_X11_turningAt_19, b_X11_turningAt_22, b_X11_turningAt_23, b_X11_turningAt_29, b_X11_turningAt_33, b_X11_turningAt_38, c_yardsNow, w32_id, if_pos, if_neg, tm_pos, qB_some, psh_some, psh_none, and_true, true_and, and_false, false_and, and_self, or_true, true_or, or_false, false_or, not_true_eq_false, not_false_eq_true, ↓reduceIte, Int.reduceEq, Int.reduceLT, Int.reduceLE, Int.reduceToNat, Nat.reduceEqDiff, Nat.reduceAdd]
theorem c_up (h1 : 2 ≤ v 11 0) (h2 : v 11 0 ≤ 30) (a i : Int) (ha : 0 ≤ a) (ha2 : a < 30) (hi : 0 ≤ i) (hi2 : i < 10000) : qE L xs (d + 3) nX11_upwardAt [(2, 0), (0, a), (0, i)] (qS v) = some (some (0, tri (v 11 0) (a + i)), qS v) := by
  simp (disch := omega) only [e_X11_upwardAt, b_X11_upwardAt_0, b_X11_upwardAt_7, w32_id, c_turningAt, qB_some, psh_some, psh_none, and_true, true_and, and_false, false_and, and_self, or_true, true_or, or_false, false_or, not_true_eq_false, not_false_eq_true, ↓reduceIte, Int.reduceEq, Int.reduceLT, Int.reduceLE, Int.reduceToNat, Nat.reduceEqDiff, Nat.reduceAdd]
theorem c_down (h1 : 2 ≤ v 11 0) (h2 : v 11 0 ≤ 30) (b i : Int) (hb : 0 ≤ b) (hb2 : b < v 11 0) (hi : 0 ≤ i) (hi2 : i < 10000) : qE L xs (d + 3) nX11_downwardAt [(2, 0), (0, b), (0, i)] (qS v) = some (some (0, tri (v 11 0) (2 * (v 11 0 - 1) - b + i)), qS v) := by
  simp (disch := omega) only [e_X11_downwardAt, b_X11_downwardAt_0, b_X11_downwardAt_9, b_X11_downwardAt_19, c_yardsNow, w32_id, c_turningAt, qB_some, psh_some, psh_none, and_true, true_and, and_false, false_and, and_self, or_true, true_or, or_false, false_or, not_true_eq_false, not_false_eq_true, ↓reduceIte, Int.reduceEq, Int.reduceLT, Int.reduceLE, Int.reduceToNat, Nat.reduceEqDiff, Nat.reduceAdd]
theorem m_up (h1 : 2 ≤ v 64 140) (h2 : v 64 140 ≤ 30) (a i : Int) (ha : 0 ≤ a) (ha2 : a < 30) (hi : 0 ≤ i) (hi2 : i < 10000) : qE L xs (d + 2) nX12_pacing [(2, 63), (0, a), (0, 1), (0, i)] (qS v) = some (some (0, tri (v 64 140) (a + i)), qS v) := by
  have r1 := Int.emod_nonneg (a + i) (show 2 * (v 64 140 - 1) ≠ 0 by omega)
  have r2 := Int.emod_lt_of_pos (a + i) (show 0 < 2 * (v 64 140 - 1) by omega)
  unfold tri
  by_cases h : v 64 140 - 1 < (a + i) % (2 * (v 64 140 - 1))
  · simp (disch := omega) only [e_X12_pacing, b_X12_pacing_0, b_X12_pacing_4, b_X12_pacing_13, b_X12_pacing_17, b_X12_pacing_23, b_X12_pacing_34, b_X12_pacing_43, b_X12_pacing_48, b_X12_pacing_55, c_yardMany, w32_id, if_pos, if_neg, tm_pos, qB_some, psh_some, psh_none, and_true, true_and, and_false, false_and, and_self, or_true, true_or, or_false, false_or, not_true_eq_false, not_false_eq_true, ↓reduceIte, Int.reduceEq, Int.reduceLT, Int.reduceLE, Int.reduceToNat, Nat.reduceEqDiff, Nat.reduceAdd]
  · simp (disch := omega) only [e_X12_pacing, b_X12_pacing_0, b_X12_pacing_4, b_X12_pacing_13, b_X12_pacing_17, b_X12_pacing_23, b_X12_pacing_34, b_X12_pacing_43, b_X12_pacing_48, b_X12_pacing_55, c_yardMany, w32_id, if_pos, if_neg, tm_pos, qB_some, psh_some, psh_none, and_true, true_and, and_false, false_and, and_self, or_true, true_or, or_false, false_or, not_true_eq_false, not_false_eq_true, ↓reduceIte, Int.reduceEq, Int.reduceLT, Int.reduceLE, Int.reduceToNat, Nat.reduceEqDiff, Nat.reduceAdd]
theorem m_down (h1 : 2 ≤ v 64 140) (h2 : v 64 140 ≤ 30) (b i : Int) (hb : 0 ≤ b) (hb2 : b < v 64 140) (hi : 0 ≤ i) (hi2 : i < 10000) : qE L xs (d + 2) nX12_pacing [(2, 63), (0, b), (0, 0), (0, i)] (qS v) = some (some (0, tri (v 64 140) (2 * (v 64 140 - 1) - b + i)), qS v) := by
  have r1 := Int.emod_nonneg (2 * (v 64 140 - 1) - b + i) (show 2 * (v 64 140 - 1) ≠ 0 by omega)
  have r2 := Int.emod_lt_of_pos (2 * (v 64 140 - 1) - b + i) (show 0 < 2 * (v 64 140 - 1) by omega)
  unfold tri
  by_cases h : v 64 140 - 1 < (2 * (v 64 140 - 1) - b + i) % (2 * (v 64 140 - 1))
  · simp (disch := omega) only [e_X12_pacing, b_X12_pacing_0, b_X12_pacing_4, b_X12_pacing_13, b_X12_pacing_17, b_X12_pacing_23, b_X12_pacing_34, b_X12_pacing_43, b_X12_pacing_48, b_X12_pacing_55, c_yardMany, w32_id, if_pos, if_neg, tm_pos, qB_some, psh_some, psh_none, and_true, true_and, and_false, false_and, and_self, or_true, true_or, or_false, false_or, not_true_eq_false, not_false_eq_true, ↓reduceIte, Int.reduceEq, Int.reduceLT, Int.reduceLE, Int.reduceToNat, Nat.reduceEqDiff, Nat.reduceAdd]
  · simp (disch := omega) only [e_X12_pacing, b_X12_pacing_0, b_X12_pacing_4, b_X12_pacing_13, b_X12_pacing_17, b_X12_pacing_23, b_X12_pacing_34, b_X12_pacing_43, b_X12_pacing_48, b_X12_pacing_55, c_yardMany, w32_id, if_pos, if_neg, tm_pos, qB_some, psh_some, psh_none, and_true, true_and, and_false, false_and, and_self, or_true, true_or, or_false, false_or, not_true_eq_false, not_false_eq_true, ↓reduceIte, Int.reduceEq, Int.reduceLT, Int.reduceLE, Int.reduceToNat, Nat.reduceEqDiff, Nat.reduceAdd]
/-- how often they have met in the first j minutes, and when first -/
def pcN (Y a b : Int) : Nat → Int × Int
  | 0 => (0, -2)
  | j + 1 => if tri Y (a + j) = tri Y (2 * (Y - 1) - b + j) then ((pcN Y a b j).1 + 1, if (pcN Y a b j).1 = 0 then (j : Int) else (pcN Y a b j).2) else pcN Y a b j
theorem pcN_le (Y a b : Int) : ∀ j : Nat, 0 ≤ (pcN Y a b j).1 ∧ (pcN Y a b j).1 ≤ j
  | 0 => ⟨by show (0 : Int) ≤ 0; omega, by show (0 : Int) ≤ ((0 : Nat) : Int); omega⟩
  | j + 1 => by
    have h := pcN_le Y a b j
    unfold pcN
    split
    · dsimp only
      omega
    · omega
theorem lp_pace (h1 : 2 ≤ v 11 0) (h2 : v 11 0 ≤ 30) (q m k : Int) (hq : 0 ≤ q) (hq1 : q / 100 < v 11 0) (hq2 : q % 100 < v 11 0) (hq3 : q < 2147483648) (hm : m ≤ 999) : ∀ (n j : Nat), (j : Int) + n = m + 1 → qG L xs (d + 3) CX11_pace 40 [(2, 0), (0, q), (0, m), (0, k), (0, (pcN (v 11 0) (q / 100) (q % 100) j).1), (0, (pcN (v 11 0) (q / 100) (q % 100) j).2), (0, (j : Int))] [] (qS v) = qG L xs (d + 3) CX11_pace 92 [(2, 0), (0, q), (0, m), (0, k), (0, (pcN (v 11 0) (q / 100) (q % 100) (j + n)).1), (0, (pcN (v 11 0) (q / 100) (q % 100) (j + n)).2), (0, m + 1)] [] (qS v)
  | 0, j, hj => by
    rw [b_X11_pace_40, if_pos (by omega), show m + 1 = (j : Int) by omega]
    rfl
  | n + 1, j, hj => by
    have hp := pcN_le (v 11 0) (q / 100) (q % 100) j
    have h3 := lp_pace h1 h2 q m k hq hq1 hq2 hq3 hm n (j + 1) (by omega)
    rw [show ((j + 1 : Nat) : Int) = (j : Int) + 1 by omega, show j + 1 + n = j + (n + 1) by omega] at h3
    refine Eq.trans ?_ h3
    rw [pcN]
    by_cases he : tri (v 11 0) (q / 100 + j) = tri (v 11 0) (2 * (v 11 0 - 1) - q % 100 + j)
    · rw [if_pos he]
      dsimp only
      by_cases hz : (pcN (v 11 0) (q / 100) (q % 100) j).1 = 0
      · rw [if_pos hz]
        conv => lhs; simp (disch := omega) only [b_X11_pace_40, b_X11_pace_46, b_X11_pace_56, b_X11_pace_66, b_X11_pace_69, b_X11_pace_74, b_X11_pace_81, td_pos, tm_pos, w32_id, c_up, c_down, if_pos he, if_pos hz, if_neg, qB_some, psh_some, psh_none, and_true, true_and, and_false, false_and, and_self, or_true, true_or, or_false, false_or, not_true_eq_false, not_false_eq_true, ↓reduceIte, Int.reduceEq, Int.reduceLT, Int.reduceLE, Int.reduceToNat, Nat.reduceEqDiff, Nat.reduceAdd]
        rw [b_X11_pace_86, w32_id (by omega) (by omega)]
      · rw [if_neg hz]
        conv => lhs; simp (disch := omega) only [b_X11_pace_40, b_X11_pace_46, b_X11_pace_56, b_X11_pace_66, b_X11_pace_69, b_X11_pace_79, b_X11_pace_81, td_pos, tm_pos, w32_id, c_up, c_down, if_pos he, if_neg hz, if_neg, qB_some, psh_some, psh_none, and_true, true_and, and_false, false_and, and_self, or_true, true_or, or_false, false_or, not_true_eq_false, not_false_eq_true, ↓reduceIte, Int.reduceEq, Int.reduceLT, Int.reduceLE, Int.reduceToNat, Nat.reduceEqDiff, Nat.reduceAdd]
        rw [b_X11_pace_86, w32_id (by omega) (by omega)]
    · rw [if_neg he]
      conv => lhs; simp (disch := omega) only [b_X11_pace_40, b_X11_pace_46, b_X11_pace_56, b_X11_pace_66, td_pos, tm_pos, w32_id, c_up, c_down, if_neg he, if_neg, qB_some, psh_some, psh_none, and_true, true_and, and_false, false_and, and_self, or_true, true_or, or_false, false_or, not_true_eq_false, not_false_eq_true, ↓reduceIte, Int.reduceEq, Int.reduceLT, Int.reduceLE, Int.reduceToNat, Nat.reduceEqDiff, Nat.reduceAdd]
      rw [b_X11_pace_86, w32_id (by omega) (by omega)]
theorem lp_mpace (h1 : 2 ≤ v 64 140) (h2 : v 64 140 ≤ 30) (q m k : Int) (hq : 0 ≤ q) (hq1 : q / 100 < v 64 140) (hq2 : q % 100 < v 64 140) (hq3 : q < 2147483648) (hm : m ≤ 999) : ∀ (n j : Nat), (j : Int) + n = m + 1 → qG L xs (d + 2) CX12_pace 42 [(2, 63), (0, q), (0, m), (0, k), (0, (pcN (v 64 140) (q / 100) (q % 100) j).1), (0, (pcN (v 64 140) (q / 100) (q % 100) j).2), (0, (j : Int))] [] (qS v) = qG L xs (d + 2) CX12_pace 96 [(2, 63), (0, q), (0, m), (0, k), (0, (pcN (v 64 140) (q / 100) (q % 100) (j + n)).1), (0, (pcN (v 64 140) (q / 100) (q % 100) (j + n)).2), (0, m + 1)] [] (qS v)
  | 0, j, hj => by
    rw [b_X12_pace_42, if_pos (by omega), show m + 1 = (j : Int) by omega]
    rfl
  | n + 1, j, hj => by
    have hp := pcN_le (v 64 140) (q / 100) (q % 100) j
    have h3 := lp_mpace h1 h2 q m k hq hq1 hq2 hq3 hm n (j + 1) (by omega)
    rw [show ((j + 1 : Nat) : Int) = (j : Int) + 1 by omega, show j + 1 + n = j + (n + 1) by omega] at h3
    refine Eq.trans ?_ h3
    rw [pcN]
    by_cases he : tri (v 64 140) (q / 100 + j) = tri (v 64 140) (2 * (v 64 140 - 1) - q % 100 + j)
    · rw [if_pos he]
      dsimp only
      by_cases hz : (pcN (v 64 140) (q / 100) (q % 100) j).1 = 0
      · rw [if_pos hz]
        conv => lhs; simp (disch := omega) only [b_X12_pace_42, b_X12_pace_48, b_X12_pace_59, b_X12_pace_70, b_X12_pace_73, b_X12_pace_78, b_X12_pace_85, td_pos, tm_pos, w32_id, m_up, m_down, if_pos he, if_pos hz, if_neg, qB_some, psh_some, psh_none, and_true, true_and, and_false, false_and, and_self, or_true, true_or, or_false, false_or, not_true_eq_false, not_false_eq_true, ↓reduceIte, Int.reduceEq, Int.reduceLT, Int.reduceLE, Int.reduceToNat, Nat.reduceEqDiff, Nat.reduceAdd]
        rw [b_X12_pace_90, w32_id (by omega) (by omega)]
      · rw [if_neg hz]
        conv => lhs; simp (disch := omega) only [b_X12_pace_42, b_X12_pace_48, b_X12_pace_59, b_X12_pace_70, b_X12_pace_73, b_X12_pace_83, b_X12_pace_85, td_pos, tm_pos, w32_id, m_up, m_down, if_pos he, if_neg hz, if_neg, qB_some, psh_some, psh_none, and_true, true_and, and_false, false_and, and_self, or_true, true_or, or_false, false_or, not_true_eq_false, not_false_eq_true, ↓reduceIte, Int.reduceEq, Int.reduceLT, Int.reduceLE, Int.reduceToNat, Nat.reduceEqDiff, Nat.reduceAdd]
        rw [b_X12_pace_90, w32_id (by omega) (by omega)]
    · rw [if_neg he]
      conv => lhs; simp (disch := omega) only [b_X12_pace_42, b_X12_pace_48, b_X12_pace_59, b_X12_pace_70, td_pos, tm_pos, w32_id, m_up, m_down, if_neg he, if_neg, qB_some, psh_some, psh_none, and_true, true_and, and_false, false_and, and_self, or_true, true_or, or_false, false_or, not_true_eq_false, not_false_eq_true, ↓reduceIte, Int.reduceEq, Int.reduceLT, Int.reduceLE, Int.reduceToNat, Nat.reduceEqDiff, Nat.reduceAdd]
      rw [b_X12_pace_90, w32_id (by omega) (by omega)]
end PA
