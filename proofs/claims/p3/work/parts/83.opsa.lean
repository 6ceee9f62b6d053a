/-! CALLS that keep the relation: hole, lane, of, led, count, digs, turn (written by wip/p1/83.opsa.py) -/
section OA2
variable {L : Nat} {xs : Nat → Int} {d : Nat} {v w : Nat → Nat → Int} {k n : Nat}
theorem hm_N (hk : k < 12) : hm v (k : Int) = hmN v k := by
  rcases k12 hk with rfl | rfl | rfl | rfl | rfl | rfl | rfl | rfl | rfl | rfl | rfl | rfl <;> rfl
theorem hm_cn (h1 : v 1 1 ≤ 12) (h2 : v 1 2 ≤ 12) (hk : k < 12) (hl : (n : Int) < hmN v k) : n < cn k := by
  rcases k12 hk with rfl | rfl | rfl | rfl | rfl | rfl | rfl | rfl | rfl | rfl | rfl | rfl
  · have q : (n : Int) < 30 := hl
    show n < 30
    omega
  · have q : (n : Int) < 30 := hl
    show n < 30
    omega
  · have q : (n : Int) < 30 := hl
    show n < 30
    omega
  · have q : (n : Int) < v 1 1 := hl
    show n < 12
    omega
  · have q : (n : Int) < v 1 1 := hl
    show n < 12
    omega
  · have q : (n : Int) < v 1 2 := hl
    show n < 12
    omega
  · have q : (n : Int) < v 1 2 := hl
    show n < 12
    omega
  · have q : (n : Int) < 2 := hl
    show n < 2
    omega
  · have q : (n : Int) < 1 := hl
    show n < 1
    omega
  · have q : (n : Int) < 1 := hl
    show n < 1
    omega
  · have q : (n : Int) < 1 := hl
    show n < 1
    omega
  · have q : (n : Int) < 1 := hl
    show n < 1
    omega
theorem m_placeOf_in (h6 : v 63 6 = v 1 1) (h8 : v 63 8 = v 1 2) (b1 : v 1 1 ≤ 12) (b2 : v 1 2 ≤ 12) (hk : k < 12) (hl : (n : Int) < hmN v k) : qE L xs (d + 2) nX12_placeOf [(2, 63), (0, (n : Int)), (0, (k : Int))] (qS v) = some (some (0, ((atM k n : Nat) : Int)), qS v) := by
  have hc := hm_cn b1 b2 hk hl
  rcases k12 hk with rfl | rfl | rfl | rfl | rfl | rfl | rfl | rfl | rfl | rfl | rfl | rfl
  · have q : (n : Int) < 30 := hl
    have e : ((atM 0 n : Nat) : Int) = 30 * ((0 : Nat) : Int) + (n : Int) := by show ((30 * 0 + n : Nat) : Int) = _; omega
    rw [e]
    simp (disch := omega) only [e_X12_placeOf, b_X12_placeOf_0, b_X12_placeOf_9, b_X12_placeOf_12, b_X12_placeOf_21, b_X12_placeOf_24, b_X12_placeOf_33, b_X12_placeOf_34, b_X12_placeOf_35, b_X12_placeOf_46, b_X12_placeOf_49, b_X12_placeOf_62, b_X12_placeOf_65, b_X12_placeOf_79, b_X12_placeOf_80, b_X12_placeOf_81, b_X12_placeOf_92, b_X12_placeOf_95, b_X12_placeOf_108, b_X12_placeOf_111, b_X12_placeOf_125, b_X12_placeOf_126, b_X12_placeOf_127, b_X12_placeOf_133, b_X12_placeOf_140, b_X12_placeOf_143, b_X12_placeOf_151, b_X12_placeOf_152, b_X12_placeOf_153, b_X12_placeOf_157, b_X12_placeOf_168, b_X12_placeOf_171, b_X12_placeOf_182, b_X12_placeOf_183, c_within, zb_0, if_pos, if_neg, w32_id, h6, h8, qB_some, psh_some, psh_none, and_true, true_and, and_false, false_and, and_self, or_true, true_or, or_false, false_or, not_true_eq_false, not_false_eq_true, ↓reduceIte, Int.reduceEq, Int.reduceLT, Int.reduceLE, Int.reduceToNat, Nat.reduceEqDiff, Nat.reduceAdd]
  · have q : (n : Int) < 30 := hl
    have e : ((atM 1 n : Nat) : Int) = 30 * ((1 : Nat) : Int) + (n : Int) := by show ((30 * 1 + n : Nat) : Int) = _; omega
    rw [e]
    simp (disch := omega) only [e_X12_placeOf, b_X12_placeOf_0, b_X12_placeOf_9, b_X12_placeOf_12, b_X12_placeOf_21, b_X12_placeOf_24, b_X12_placeOf_33, b_X12_placeOf_34, b_X12_placeOf_35, b_X12_placeOf_46, b_X12_placeOf_49, b_X12_placeOf_62, b_X12_placeOf_65, b_X12_placeOf_79, b_X12_placeOf_80, b_X12_placeOf_81, b_X12_placeOf_92, b_X12_placeOf_95, b_X12_placeOf_108, b_X12_placeOf_111, b_X12_placeOf_125, b_X12_placeOf_126, b_X12_placeOf_127, b_X12_placeOf_133, b_X12_placeOf_140, b_X12_placeOf_143, b_X12_placeOf_151, b_X12_placeOf_152, b_X12_placeOf_153, b_X12_placeOf_157, b_X12_placeOf_168, b_X12_placeOf_171, b_X12_placeOf_182, b_X12_placeOf_183, c_within, zb_0, if_pos, if_neg, w32_id, h6, h8, qB_some, psh_some, psh_none, and_true, true_and, and_false, false_and, and_self, or_true, true_or, or_false, false_or, not_true_eq_false, not_false_eq_true, ↓reduceIte, Int.reduceEq, Int.reduceLT, Int.reduceLE, Int.reduceToNat, Nat.reduceEqDiff, Nat.reduceAdd]
  · have q : (n : Int) < 30 := hl
    have e : ((atM 2 n : Nat) : Int) = 30 * ((2 : Nat) : Int) + (n : Int) := by show ((30 * 2 + n : Nat) : Int) = _; omega
    rw [e]
    simp (disch := omega) only [e_X12_placeOf, b_X12_placeOf_0, b_X12_placeOf_9, b_X12_placeOf_12, b_X12_placeOf_21, b_X12_placeOf_24, b_X12_placeOf_33, b_X12_placeOf_34, b_X12_placeOf_35, b_X12_placeOf_46, b_X12_placeOf_49, b_X12_placeOf_62, b_X12_placeOf_65, b_X12_placeOf_79, b_X12_placeOf_80, b_X12_placeOf_81, b_X12_placeOf_92, b_X12_placeOf_95, b_X12_placeOf_108, b_X12_placeOf_111, b_X12_placeOf_125, b_X12_placeOf_126, b_X12_placeOf_127, b_X12_placeOf_133, b_X12_placeOf_140, b_X12_placeOf_143, b_X12_placeOf_151, b_X12_placeOf_152, b_X12_placeOf_153, b_X12_placeOf_157, b_X12_placeOf_168, b_X12_placeOf_171, b_X12_placeOf_182, b_X12_placeOf_183, c_within, zb_0, if_pos, if_neg, w32_id, h6, h8, qB_some, psh_some, psh_none, and_true, true_and, and_false, false_and, and_self, or_true, true_or, or_false, false_or, not_true_eq_false, not_false_eq_true, ↓reduceIte, Int.reduceEq, Int.reduceLT, Int.reduceLE, Int.reduceToNat, Nat.reduceEqDiff, Nat.reduceAdd]
  · have q : (n : Int) < v 1 1 := hl
    have e : ((atM 3 n : Nat) : Int) = 90 + 12 * (((3 : Nat) : Int) - 3) + (n : Int) := by show ((90 + 12 * (3 - 3) + n : Nat) : Int) = _; omega
    rw [e]
    simp (disch := omega) only [e_X12_placeOf, b_X12_placeOf_0, b_X12_placeOf_9, b_X12_placeOf_12, b_X12_placeOf_21, b_X12_placeOf_24, b_X12_placeOf_33, b_X12_placeOf_34, b_X12_placeOf_35, b_X12_placeOf_46, b_X12_placeOf_49, b_X12_placeOf_62, b_X12_placeOf_65, b_X12_placeOf_79, b_X12_placeOf_80, b_X12_placeOf_81, b_X12_placeOf_92, b_X12_placeOf_95, b_X12_placeOf_108, b_X12_placeOf_111, b_X12_placeOf_125, b_X12_placeOf_126, b_X12_placeOf_127, b_X12_placeOf_133, b_X12_placeOf_140, b_X12_placeOf_143, b_X12_placeOf_151, b_X12_placeOf_152, b_X12_placeOf_153, b_X12_placeOf_157, b_X12_placeOf_168, b_X12_placeOf_171, b_X12_placeOf_182, b_X12_placeOf_183, c_within, zb_0, if_pos, if_neg, w32_id, h6, h8, qB_some, psh_some, psh_none, and_true, true_and, and_false, false_and, and_self, or_true, true_or, or_false, false_or, not_true_eq_false, not_false_eq_true, ↓reduceIte, Int.reduceEq, Int.reduceLT, Int.reduceLE, Int.reduceToNat, Nat.reduceEqDiff, Nat.reduceAdd]
  · have q : (n : Int) < v 1 1 := hl
    have e : ((atM 4 n : Nat) : Int) = 90 + 12 * (((4 : Nat) : Int) - 3) + (n : Int) := by show ((90 + 12 * (4 - 3) + n : Nat) : Int) = _; omega
    rw [e]
    simp (disch := omega) only [e_X12_placeOf, b_X12_placeOf_0, b_X12_placeOf_9, b_X12_placeOf_12, b_X12_placeOf_21, b_X12_placeOf_24, b_X12_placeOf_33, b_X12_placeOf_34, b_X12_placeOf_35, b_X12_placeOf_46, b_X12_placeOf_49, b_X12_placeOf_62, b_X12_placeOf_65, b_X12_placeOf_79, b_X12_placeOf_80, b_X12_placeOf_81, b_X12_placeOf_92, b_X12_placeOf_95, b_X12_placeOf_108, b_X12_placeOf_111, b_X12_placeOf_125, b_X12_placeOf_126, b_X12_placeOf_127, b_X12_placeOf_133, b_X12_placeOf_140, b_X12_placeOf_143, b_X12_placeOf_151, b_X12_placeOf_152, b_X12_placeOf_153, b_X12_placeOf_157, b_X12_placeOf_168, b_X12_placeOf_171, b_X12_placeOf_182, b_X12_placeOf_183, c_within, zb_0, if_pos, if_neg, w32_id, h6, h8, qB_some, psh_some, psh_none, and_true, true_and, and_false, false_and, and_self, or_true, true_or, or_false, false_or, not_true_eq_false, not_false_eq_true, ↓reduceIte, Int.reduceEq, Int.reduceLT, Int.reduceLE, Int.reduceToNat, Nat.reduceEqDiff, Nat.reduceAdd]
  · have q : (n : Int) < v 1 2 := hl
    have e : ((atM 5 n : Nat) : Int) = 114 + 12 * (((5 : Nat) : Int) - 5) + (n : Int) := by show ((90 + 12 * (5 - 3) + n : Nat) : Int) = _; omega
    rw [e]
    simp (disch := omega) only [e_X12_placeOf, b_X12_placeOf_0, b_X12_placeOf_9, b_X12_placeOf_12, b_X12_placeOf_21, b_X12_placeOf_24, b_X12_placeOf_33, b_X12_placeOf_34, b_X12_placeOf_35, b_X12_placeOf_46, b_X12_placeOf_49, b_X12_placeOf_62, b_X12_placeOf_65, b_X12_placeOf_79, b_X12_placeOf_80, b_X12_placeOf_81, b_X12_placeOf_92, b_X12_placeOf_95, b_X12_placeOf_108, b_X12_placeOf_111, b_X12_placeOf_125, b_X12_placeOf_126, b_X12_placeOf_127, b_X12_placeOf_133, b_X12_placeOf_140, b_X12_placeOf_143, b_X12_placeOf_151, b_X12_placeOf_152, b_X12_placeOf_153, b_X12_placeOf_157, b_X12_placeOf_168, b_X12_placeOf_171, b_X12_placeOf_182, b_X12_placeOf_183, c_within, zb_0, if_pos, if_neg, w32_id, h6, h8, qB_some, psh_some, psh_none, and_true, true_and, and_false, false_and, and_self, or_true, true_or, or_false, false_or, not_true_eq_false, not_false_eq_true, ↓reduceIte, Int.reduceEq, Int.reduceLT, Int.reduceLE, Int.reduceToNat, Nat.reduceEqDiff, Nat.reduceAdd]
  · have q : (n : Int) < v 1 2 := hl
    have e : ((atM 6 n : Nat) : Int) = 114 + 12 * (((6 : Nat) : Int) - 5) + (n : Int) := by show ((90 + 12 * (6 - 3) + n : Nat) : Int) = _; omega
    rw [e]
    simp (disch := omega) only [e_X12_placeOf, b_X12_placeOf_0, b_X12_placeOf_9, b_X12_placeOf_12, b_X12_placeOf_21, b_X12_placeOf_24, b_X12_placeOf_33, b_X12_placeOf_34, b_X12_placeOf_35, b_X12_placeOf_46, b_X12_placeOf_49, b_X12_placeOf_62, b_X12_placeOf_65, b_X12_placeOf_79, b_X12_placeOf_80, b_X12_placeOf_81, b_X12_placeOf_92, b_X12_placeOf_95, b_X12_placeOf_108, b_X12_placeOf_111, b_X12_placeOf_125, b_X12_placeOf_126, b_X12_placeOf_127, b_X12_placeOf_133, b_X12_placeOf_140, b_X12_placeOf_143, b_X12_placeOf_151, b_X12_placeOf_152, b_X12_placeOf_153, b_X12_placeOf_157, b_X12_placeOf_168, b_X12_placeOf_171, b_X12_placeOf_182, b_X12_placeOf_183, c_within, zb_0, if_pos, if_neg, w32_id, h6, h8, qB_some, psh_some, psh_none, and_true, true_and, and_false, false_and, and_self, or_true, true_or, or_false, false_or, not_true_eq_false, not_false_eq_true, ↓reduceIte, Int.reduceEq, Int.reduceLT, Int.reduceLE, Int.reduceToNat, Nat.reduceEqDiff, Nat.reduceAdd]
  · have q : (n : Int) < 2 := hl
    have e : ((atM 7 n : Nat) : Int) = 138 + (n : Int) := by show ((138 + n : Nat) : Int) = _; omega
    rw [e]
    simp (disch := omega) only [e_X12_placeOf, b_X12_placeOf_0, b_X12_placeOf_9, b_X12_placeOf_12, b_X12_placeOf_21, b_X12_placeOf_24, b_X12_placeOf_33, b_X12_placeOf_34, b_X12_placeOf_35, b_X12_placeOf_46, b_X12_placeOf_49, b_X12_placeOf_62, b_X12_placeOf_65, b_X12_placeOf_79, b_X12_placeOf_80, b_X12_placeOf_81, b_X12_placeOf_92, b_X12_placeOf_95, b_X12_placeOf_108, b_X12_placeOf_111, b_X12_placeOf_125, b_X12_placeOf_126, b_X12_placeOf_127, b_X12_placeOf_133, b_X12_placeOf_140, b_X12_placeOf_143, b_X12_placeOf_151, b_X12_placeOf_152, b_X12_placeOf_153, b_X12_placeOf_157, b_X12_placeOf_168, b_X12_placeOf_171, b_X12_placeOf_182, b_X12_placeOf_183, c_within, zb_0, if_pos, if_neg, w32_id, h6, h8, qB_some, psh_some, psh_none, and_true, true_and, and_false, false_and, and_self, or_true, true_or, or_false, false_or, not_true_eq_false, not_false_eq_true, ↓reduceIte, Int.reduceEq, Int.reduceLT, Int.reduceLE, Int.reduceToNat, Nat.reduceEqDiff, Nat.reduceAdd]
  · have q : (n : Int) < 1 := hl
    have q0 : n = 0 := by omega
    subst q0
    have e : ((atM 8 0 : Nat) : Int) = 140 + ((8 : Nat) : Int) - 8 := by decide
    rw [e]
    simp (disch := omega) only [e_X12_placeOf, b_X12_placeOf_0, b_X12_placeOf_9, b_X12_placeOf_12, b_X12_placeOf_21, b_X12_placeOf_24, b_X12_placeOf_33, b_X12_placeOf_34, b_X12_placeOf_35, b_X12_placeOf_46, b_X12_placeOf_49, b_X12_placeOf_62, b_X12_placeOf_65, b_X12_placeOf_79, b_X12_placeOf_80, b_X12_placeOf_81, b_X12_placeOf_92, b_X12_placeOf_95, b_X12_placeOf_108, b_X12_placeOf_111, b_X12_placeOf_125, b_X12_placeOf_126, b_X12_placeOf_127, b_X12_placeOf_133, b_X12_placeOf_140, b_X12_placeOf_143, b_X12_placeOf_151, b_X12_placeOf_152, b_X12_placeOf_153, b_X12_placeOf_157, b_X12_placeOf_168, b_X12_placeOf_171, b_X12_placeOf_182, b_X12_placeOf_183, c_within, zb_0, if_pos, if_neg, w32_id, h6, h8, qB_some, psh_some, psh_none, and_true, true_and, and_false, false_and, and_self, or_true, true_or, or_false, false_or, not_true_eq_false, not_false_eq_true, ↓reduceIte, Int.reduceEq, Int.reduceLT, Int.reduceLE, Int.reduceToNat, Nat.reduceEqDiff, Nat.reduceAdd]
  · have q : (n : Int) < 1 := hl
    have q0 : n = 0 := by omega
    subst q0
    have e : ((atM 9 0 : Nat) : Int) = 140 + ((9 : Nat) : Int) - 8 := by decide
    rw [e]
    simp (disch := omega) only [e_X12_placeOf, b_X12_placeOf_0, b_X12_placeOf_9, b_X12_placeOf_12, b_X12_placeOf_21, b_X12_placeOf_24, b_X12_placeOf_33, b_X12_placeOf_34, b_X12_placeOf_35, b_X12_placeOf_46, b_X12_placeOf_49, b_X12_placeOf_62, b_X12_placeOf_65, b_X12_placeOf_79, b_X12_placeOf_80, b_X12_placeOf_81, b_X12_placeOf_92, b_X12_placeOf_95, b_X12_placeOf_108, b_X12_placeOf_111, b_X12_placeOf_125, b_X12_placeOf_126, b_X12_placeOf_127, b_X12_placeOf_133, b_X12_placeOf_140, b_X12_placeOf_143, b_X12_placeOf_151, b_X12_placeOf_152, b_X12_placeOf_153, b_X12_placeOf_157, b_X12_placeOf_168, b_X12_placeOf_171, b_X12_placeOf_182, b_X12_placeOf_183, c_within, zb_0, if_pos, if_neg, w32_id, h6, h8, qB_some, psh_some, psh_none, and_true, true_and, and_false, false_and, and_self, or_true, true_or, or_false, false_or, not_true_eq_false, not_false_eq_true, ↓reduceIte, Int.reduceEq, Int.reduceLT, Int.reduceLE, Int.reduceToNat, Nat.reduceEqDiff, Nat.reduceAdd]
  · have q : (n : Int) < 1 := hl
    have q0 : n = 0 := by omega
    subst q0
    have e : ((atM 10 0 : Nat) : Int) = 140 + ((10 : Nat) : Int) - 8 := by decide
    rw [e]
    simp (disch := omega) only [e_X12_placeOf, b_X12_placeOf_0, b_X12_placeOf_9, b_X12_placeOf_12, b_X12_placeOf_21, b_X12_placeOf_24, b_X12_placeOf_33, b_X12_placeOf_34, b_X12_placeOf_35, b_X12_placeOf_46, b_X12_placeOf_49, b_X12_placeOf_62, b_X12_placeOf_65, b_X12_placeOf_79, b_X12_placeOf_80, b_X12_placeOf_81, b_X12_placeOf_92, b_X12_placeOf_95, b_X12_placeOf_108, b_X12_placeOf_111, b_X12_placeOf_125, b_X12_placeOf_126, b_X12_placeOf_127, b_X12_placeOf_133, b_X12_placeOf_140, b_X12_placeOf_143, b_X12_placeOf_151, b_X12_placeOf_152, b_X12_placeOf_153, b_X12_placeOf_157, b_X12_placeOf_168, b_X12_placeOf_171, b_X12_placeOf_182, b_X12_placeOf_183, c_within, zb_0, if_pos, if_neg, w32_id, h6, h8, qB_some, psh_some, psh_none, and_true, true_and, and_false, false_and, and_self, or_true, true_or, or_false, false_or, not_true_eq_false, not_false_eq_true, ↓reduceIte, Int.reduceEq, Int.reduceLT, Int.reduceLE, Int.reduceToNat, Nat.reduceEqDiff, Nat.reduceAdd]
  · have q : (n : Int) < 1 := hl
    have q0 : n = 0 := by omega
    subst q0
    have e : ((atM 11 0 : Nat) : Int) = 140 + ((11 : Nat) : Int) - 8 := by decide
    rw [e]
    simp (disch := omega) only [e_X12_placeOf, b_X12_placeOf_0, b_X12_placeOf_9, b_X12_placeOf_12, b_X12_placeOf_21, b_X12_placeOf_24, b_X12_placeOf_33, b_X12_placeOf_34, b_X12_placeOf_35, b_X12_placeOf_46, b_X12_placeOf_49, b_X12_placeOf_62, b_X12_placeOf_65, b_X12_placeOf_79, b_X12_placeOf_80, b_X12_placeOf_81, b_X12_placeOf_92, b_X12_placeOf_95, b_X12_placeOf_108, b_X12_placeOf_111, b_X12_placeOf_125, b_X12_placeOf_126, b_X12_placeOf_127, b_X12_placeOf_133, b_X12_placeOf_140, b_X12_placeOf_143, b_X12_placeOf_151, b_X12_placeOf_152, b_X12_placeOf_153, b_X12_placeOf_157, b_X12_placeOf_168, b_X12_placeOf_171, b_X12_placeOf_182, b_X12_placeOf_183, c_within, zb_0, if_pos, if_neg, w32_id, h6, h8, qB_some, psh_some, psh_none, and_true, true_and, and_false, false_and, and_self, or_true, true_or, or_false, false_or, not_true_eq_false, not_false_eq_true, ↓reduceIte, Int.reduceEq, Int.reduceLT, Int.reduceLE, Int.reduceToNat, Nat.reduceEqDiff, Nat.reduceAdd]
theorem m_placeOf_out (h6 : v 63 6 = v 1 1) (h8 : v 63 8 = v 1 2) (b1 : 0 ≤ v 1 1 ∧ v 1 1 ≤ 12) (b2 : 0 ≤ v 1 2 ∧ v 1 2 ≤ 12) (n a : Int) (h : ¬ ((0 ≤ a ∧ a < 12) ∧ 0 ≤ n ∧ n < hm v a)) : qE L xs (d + 2) nX12_placeOf [(2, 63), (0, n), (0, a)] (qS v) = some (some (0, -1), qS v) := by
  by_cases ha : 0 ≤ a ∧ a < 12
  · have h0 : a = 0 ∨ a = 1 ∨ a = 2 ∨ a = 3 ∨ a = 4 ∨ a = 5 ∨ a = 6 ∨ a = 7 ∨ a = 8 ∨ a = 9 ∨ a = 10 ∨ a = 11 := by omega
    rcases h0 with rfl | rfl | rfl | rfl | rfl | rfl | rfl | rfl | rfl | rfl | rfl | rfl
    · have q : ¬ (0 ≤ n ∧ n < 30) := fun z => h ⟨ha, z⟩
      simp (disch := omega) only [e_X12_placeOf, b_X12_placeOf_0, b_X12_placeOf_9, b_X12_placeOf_12, b_X12_placeOf_21, b_X12_placeOf_24, b_X12_placeOf_33, b_X12_placeOf_34, b_X12_placeOf_35, b_X12_placeOf_46, b_X12_placeOf_49, b_X12_placeOf_62, b_X12_placeOf_65, b_X12_placeOf_79, b_X12_placeOf_80, b_X12_placeOf_81, b_X12_placeOf_92, b_X12_placeOf_95, b_X12_placeOf_108, b_X12_placeOf_111, b_X12_placeOf_125, b_X12_placeOf_126, b_X12_placeOf_127, b_X12_placeOf_133, b_X12_placeOf_140, b_X12_placeOf_143, b_X12_placeOf_151, b_X12_placeOf_152, b_X12_placeOf_153, b_X12_placeOf_157, b_X12_placeOf_168, b_X12_placeOf_171, b_X12_placeOf_182, b_X12_placeOf_183, c_within, zb_0, if_pos, if_neg, w32_id, h6, h8, qB_some, psh_some, psh_none, and_true, true_and, and_false, false_and, and_self, or_true, true_or, or_false, false_or, not_true_eq_false, not_false_eq_true, ↓reduceIte, Int.reduceEq, Int.reduceLT, Int.reduceLE, Int.reduceToNat, Nat.reduceEqDiff, Nat.reduceAdd]
    · have q : ¬ (0 ≤ n ∧ n < 30) := fun z => h ⟨ha, z⟩
      simp (disch := omega) only [e_X12_placeOf, b_X12_placeOf_0, b_X12_placeOf_9, b_X12_placeOf_12, b_X12_placeOf_21, b_X12_placeOf_24, b_X12_placeOf_33, b_X12_placeOf_34, b_X12_placeOf_35, b_X12_placeOf_46, b_X12_placeOf_49, b_X12_placeOf_62, b_X12_placeOf_65, b_X12_placeOf_79, b_X12_placeOf_80, b_X12_placeOf_81, b_X12_placeOf_92, b_X12_placeOf_95, b_X12_placeOf_108, b_X12_placeOf_111, b_X12_placeOf_125, b_X12_placeOf_126, b_X12_placeOf_127, b_X12_placeOf_133, b_X12_placeOf_140, b_X12_placeOf_143, b_X12_placeOf_151, b_X12_placeOf_152, b_X12_placeOf_153, b_X12_placeOf_157, b_X12_placeOf_168, b_X12_placeOf_171, b_X12_placeOf_182, b_X12_placeOf_183, c_within, zb_0, if_pos, if_neg, w32_id, h6, h8, qB_some, psh_some, psh_none, and_true, true_and, and_false, false_and, and_self, or_true, true_or, or_false, false_or, not_true_eq_false, not_false_eq_true, ↓reduceIte, Int.reduceEq, Int.reduceLT, Int.reduceLE, Int.reduceToNat, Nat.reduceEqDiff, Nat.reduceAdd]
    · have q : ¬ (0 ≤ n ∧ n < 30) := fun z => h ⟨ha, z⟩
      simp (disch := omega) only [e_X12_placeOf, b_X12_placeOf_0, b_X12_placeOf_9, b_X12_placeOf_12, b_X12_placeOf_21, b_X12_placeOf_24, b_X12_placeOf_33, b_X12_placeOf_34, b_X12_placeOf_35, b_X12_placeOf_46, b_X12_placeOf_49, b_X12_placeOf_62, b_X12_placeOf_65, b_X12_placeOf_79, b_X12_placeOf_80, b_X12_placeOf_81, b_X12_placeOf_92, b_X12_placeOf_95, b_X12_placeOf_108, b_X12_placeOf_111, b_X12_placeOf_125, b_X12_placeOf_126, b_X12_placeOf_127, b_X12_placeOf_133, b_X12_placeOf_140, b_X12_placeOf_143, b_X12_placeOf_151, b_X12_placeOf_152, b_X12_placeOf_153, b_X12_placeOf_157, b_X12_placeOf_168, b_X12_placeOf_171, b_X12_placeOf_182, b_X12_placeOf_183, c_within, zb_0, if_pos, if_neg, w32_id, h6, h8, qB_some, psh_some, psh_none, and_true, true_and, and_false, false_and, and_self, or_true, true_or, or_false, false_or, not_true_eq_false, not_false_eq_true, ↓reduceIte, Int.reduceEq, Int.reduceLT, Int.reduceLE, Int.reduceToNat, Nat.reduceEqDiff, Nat.reduceAdd]
    · have q : ¬ (0 ≤ n ∧ n < v 1 1) := fun z => h ⟨ha, z⟩
      simp (disch := omega) only [e_X12_placeOf, b_X12_placeOf_0, b_X12_placeOf_9, b_X12_placeOf_12, b_X12_placeOf_21, b_X12_placeOf_24, b_X12_placeOf_33, b_X12_placeOf_34, b_X12_placeOf_35, b_X12_placeOf_46, b_X12_placeOf_49, b_X12_placeOf_62, b_X12_placeOf_65, b_X12_placeOf_79, b_X12_placeOf_80, b_X12_placeOf_81, b_X12_placeOf_92, b_X12_placeOf_95, b_X12_placeOf_108, b_X12_placeOf_111, b_X12_placeOf_125, b_X12_placeOf_126, b_X12_placeOf_127, b_X12_placeOf_133, b_X12_placeOf_140, b_X12_placeOf_143, b_X12_placeOf_151, b_X12_placeOf_152, b_X12_placeOf_153, b_X12_placeOf_157, b_X12_placeOf_168, b_X12_placeOf_171, b_X12_placeOf_182, b_X12_placeOf_183, c_within, zb_0, if_pos, if_neg, w32_id, h6, h8, qB_some, psh_some, psh_none, and_true, true_and, and_false, false_and, and_self, or_true, true_or, or_false, false_or, not_true_eq_false, not_false_eq_true, ↓reduceIte, Int.reduceEq, Int.reduceLT, Int.reduceLE, Int.reduceToNat, Nat.reduceEqDiff, Nat.reduceAdd]
    · have q : ¬ (0 ≤ n ∧ n < v 1 1) := fun z => h ⟨ha, z⟩
      simp (disch := omega) only [e_X12_placeOf, b_X12_placeOf_0, b_X12_placeOf_9, b_X12_placeOf_12, b_X12_placeOf_21, b_X12_placeOf_24, b_X12_placeOf_33, b_X12_placeOf_34, b_X12_placeOf_35, b_X12_placeOf_46, b_X12_placeOf_49, b_X12_placeOf_62, b_X12_placeOf_65, b_X12_placeOf_79, b_X12_placeOf_80, b_X12_placeOf_81, b_X12_placeOf_92, b_X12_placeOf_95, b_X12_placeOf_108, b_X12_placeOf_111, b_X12_placeOf_125, b_X12_placeOf_126, b_X12_placeOf_127, b_X12_placeOf_133, b_X12_placeOf_140, b_X12_placeOf_143, b_X12_placeOf_151, b_X12_placeOf_152, b_X12_placeOf_153, b_X12_placeOf_157, b_X12_placeOf_168, b_X12_placeOf_171, b_X12_placeOf_182, b_X12_placeOf_183, c_within, zb_0, if_pos, if_neg, w32_id, h6, h8, qB_some, psh_some, psh_none, and_true, true_and, and_false, false_and, and_self, or_true, true_or, or_false, false_or, not_true_eq_false, not_false_eq_true, ↓reduceIte, Int.reduceEq, Int.reduceLT, Int.reduceLE, Int.reduceToNat, Nat.reduceEqDiff, Nat.reduceAdd]
    · have q : ¬ (0 ≤ n ∧ n < v 1 2) := fun z => h ⟨ha, z⟩
      simp (disch := omega) only [e_X12_placeOf, b_X12_placeOf_0, b_X12_placeOf_9, b_X12_placeOf_12, b_X12_placeOf_21, b_X12_placeOf_24, b_X12_placeOf_33, b_X12_placeOf_34, b_X12_placeOf_35, b_X12_placeOf_46, b_X12_placeOf_49, b_X12_placeOf_62, b_X12_placeOf_65, b_X12_placeOf_79, b_X12_placeOf_80, b_X12_placeOf_81, b_X12_placeOf_92, b_X12_placeOf_95, b_X12_placeOf_108, b_X12_placeOf_111, b_X12_placeOf_125, b_X12_placeOf_126, b_X12_placeOf_127, b_X12_placeOf_133, b_X12_placeOf_140, b_X12_placeOf_143, b_X12_placeOf_151, b_X12_placeOf_152, b_X12_placeOf_153, b_X12_placeOf_157, b_X12_placeOf_168, b_X12_placeOf_171, b_X12_placeOf_182, b_X12_placeOf_183, c_within, zb_0, if_pos, if_neg, w32_id, h6, h8, qB_some, psh_some, psh_none, and_true, true_and, and_false, false_and, and_self, or_true, true_or, or_false, false_or, not_true_eq_false, not_false_eq_true, ↓reduceIte, Int.reduceEq, Int.reduceLT, Int.reduceLE, Int.reduceToNat, Nat.reduceEqDiff, Nat.reduceAdd]
    · have q : ¬ (0 ≤ n ∧ n < v 1 2) := fun z => h ⟨ha, z⟩
      simp (disch := omega) only [e_X12_placeOf, b_X12_placeOf_0, b_X12_placeOf_9, b_X12_placeOf_12, b_X12_placeOf_21, b_X12_placeOf_24, b_X12_placeOf_33, b_X12_placeOf_34, b_X12_placeOf_35, b_X12_placeOf_46, b_X12_placeOf_49, b_X12_placeOf_62, b_X12_placeOf_65, b_X12_placeOf_79, b_X12_placeOf_80, b_X12_placeOf_81, b_X12_placeOf_92, b_X12_placeOf_95, b_X12_placeOf_108, b_X12_placeOf_111, b_X12_placeOf_125, b_X12_placeOf_126, b_X12_placeOf_127, b_X12_placeOf_133, b_X12_placeOf_140, b_X12_placeOf_143, b_X12_placeOf_151, b_X12_placeOf_152, b_X12_placeOf_153, b_X12_placeOf_157, b_X12_placeOf_168, b_X12_placeOf_171, b_X12_placeOf_182, b_X12_placeOf_183, c_within, zb_0, if_pos, if_neg, w32_id, h6, h8, qB_some, psh_some, psh_none, and_true, true_and, and_false, false_and, and_self, or_true, true_or, or_false, false_or, not_true_eq_false, not_false_eq_true, ↓reduceIte, Int.reduceEq, Int.reduceLT, Int.reduceLE, Int.reduceToNat, Nat.reduceEqDiff, Nat.reduceAdd]
    · have q : ¬ (0 ≤ n ∧ n < 2) := fun z => h ⟨ha, z⟩
      simp (disch := omega) only [e_X12_placeOf, b_X12_placeOf_0, b_X12_placeOf_9, b_X12_placeOf_12, b_X12_placeOf_21, b_X12_placeOf_24, b_X12_placeOf_33, b_X12_placeOf_34, b_X12_placeOf_35, b_X12_placeOf_46, b_X12_placeOf_49, b_X12_placeOf_62, b_X12_placeOf_65, b_X12_placeOf_79, b_X12_placeOf_80, b_X12_placeOf_81, b_X12_placeOf_92, b_X12_placeOf_95, b_X12_placeOf_108, b_X12_placeOf_111, b_X12_placeOf_125, b_X12_placeOf_126, b_X12_placeOf_127, b_X12_placeOf_133, b_X12_placeOf_140, b_X12_placeOf_143, b_X12_placeOf_151, b_X12_placeOf_152, b_X12_placeOf_153, b_X12_placeOf_157, b_X12_placeOf_168, b_X12_placeOf_171, b_X12_placeOf_182, b_X12_placeOf_183, c_within, zb_0, if_pos, if_neg, w32_id, h6, h8, qB_some, psh_some, psh_none, and_true, true_and, and_false, false_and, and_self, or_true, true_or, or_false, false_or, not_true_eq_false, not_false_eq_true, ↓reduceIte, Int.reduceEq, Int.reduceLT, Int.reduceLE, Int.reduceToNat, Nat.reduceEqDiff, Nat.reduceAdd]
    · have q : ¬ (0 ≤ n ∧ n < 1) := fun z => h ⟨ha, z⟩
      simp (disch := omega) only [e_X12_placeOf, b_X12_placeOf_0, b_X12_placeOf_9, b_X12_placeOf_12, b_X12_placeOf_21, b_X12_placeOf_24, b_X12_placeOf_33, b_X12_placeOf_34, b_X12_placeOf_35, b_X12_placeOf_46, b_X12_placeOf_49, b_X12_placeOf_62, b_X12_placeOf_65, b_X12_placeOf_79, b_X12_placeOf_80, b_X12_placeOf_81, b_X12_placeOf_92, b_X12_placeOf_95, b_X12_placeOf_108, b_X12_placeOf_111, b_X12_placeOf_125, b_X12_placeOf_126, b_X12_placeOf_127, b_X12_placeOf_133, b_X12_placeOf_140, b_X12_placeOf_143, b_X12_placeOf_151, b_X12_placeOf_152, b_X12_placeOf_153, b_X12_placeOf_157, b_X12_placeOf_168, b_X12_placeOf_171, b_X12_placeOf_182, b_X12_placeOf_183, c_within, zb_0, if_pos, if_neg, w32_id, h6, h8, qB_some, psh_some, psh_none, and_true, true_and, and_false, false_and, and_self, or_true, true_or, or_false, false_or, not_true_eq_false, not_false_eq_true, ↓reduceIte, Int.reduceEq, Int.reduceLT, Int.reduceLE, Int.reduceToNat, Nat.reduceEqDiff, Nat.reduceAdd]
    · have q : ¬ (0 ≤ n ∧ n < 1) := fun z => h ⟨ha, z⟩
      simp (disch := omega) only [e_X12_placeOf, b_X12_placeOf_0, b_X12_placeOf_9, b_X12_placeOf_12, b_X12_placeOf_21, b_X12_placeOf_24, b_X12_placeOf_33, b_X12_placeOf_34, b_X12_placeOf_35, b_X12_placeOf_46, b_X12_placeOf_49, b_X12_placeOf_62, b_X12_placeOf_65, b_X12_placeOf_79, b_X12_placeOf_80, b_X12_placeOf_81, b_X12_placeOf_92, b_X12_placeOf_95, b_X12_placeOf_108, b_X12_placeOf_111, b_X12_placeOf_125, b_X12_placeOf_126, b_X12_placeOf_127, b_X12_placeOf_133, b_X12_placeOf_140, b_X12_placeOf_143, b_X12_placeOf_151, b_X12_placeOf_152, b_X12_placeOf_153, b_X12_placeOf_157, b_X12_placeOf_168, b_X12_placeOf_171, b_X12_placeOf_182, b_X12_placeOf_183, c_within, zb_0, if_pos, if_neg, w32_id, h6, h8, qB_some, psh_some, psh_none, and_true, true_and, and_false, false_and, and_self, or_true, true_or, or_false, false_or, not_true_eq_false, not_false_eq_true, ↓reduceIte, Int.reduceEq, Int.reduceLT, Int.reduceLE, Int.reduceToNat, Nat.reduceEqDiff, Nat.reduceAdd]
    · have q : ¬ (0 ≤ n ∧ n < 1) := fun z => h ⟨ha, z⟩
      simp (disch := omega) only [e_X12_placeOf, b_X12_placeOf_0, b_X12_placeOf_9, b_X12_placeOf_12, b_X12_placeOf_21, b_X12_placeOf_24, b_X12_placeOf_33, b_X12_placeOf_34, b_X12_placeOf_35, b_X12_placeOf_46, b_X12_placeOf_49, b_X12_placeOf_62, b_X12_placeOf_65, b_X12_placeOf_79, b_X12_placeOf_80, b_X12_placeOf_81, b_X12_placeOf_92, b_X12_placeOf_95, b_X12_placeOf_108, b_X12_placeOf_111, b_X12_placeOf_125, b_X12_placeOf_126, b_X12_placeOf_127, b_X12_placeOf_133, b_X12_placeOf_140, b_X12_placeOf_143, b_X12_placeOf_151, b_X12_placeOf_152, b_X12_placeOf_153, b_X12_placeOf_157, b_X12_placeOf_168, b_X12_placeOf_171, b_X12_placeOf_182, b_X12_placeOf_183, c_within, zb_0, if_pos, if_neg, w32_id, h6, h8, qB_some, psh_some, psh_none, and_true, true_and, and_false, false_and, and_self, or_true, true_or, or_false, false_or, not_true_eq_false, not_false_eq_true, ↓reduceIte, Int.reduceEq, Int.reduceLT, Int.reduceLE, Int.reduceToNat, Nat.reduceEqDiff, Nat.reduceAdd]
    · have q : ¬ (0 ≤ n ∧ n < 1) := fun z => h ⟨ha, z⟩
      simp (disch := omega) only [e_X12_placeOf, b_X12_placeOf_0, b_X12_placeOf_9, b_X12_placeOf_12, b_X12_placeOf_21, b_X12_placeOf_24, b_X12_placeOf_33, b_X12_placeOf_34, b_X12_placeOf_35, b_X12_placeOf_46, b_X12_placeOf_49, b_X12_placeOf_62, b_X12_placeOf_65, b_X12_placeOf_79, b_X12_placeOf_80, b_X12_placeOf_81, b_X12_placeOf_92, b_X12_placeOf_95, b_X12_placeOf_108, b_X12_placeOf_111, b_X12_placeOf_125, b_X12_placeOf_126, b_X12_placeOf_127, b_X12_placeOf_133, b_X12_placeOf_140, b_X12_placeOf_143, b_X12_placeOf_151, b_X12_placeOf_152, b_X12_placeOf_153, b_X12_placeOf_157, b_X12_placeOf_168, b_X12_placeOf_171, b_X12_placeOf_182, b_X12_placeOf_183, c_within, zb_0, if_pos, if_neg, w32_id, h6, h8, qB_some, psh_some, psh_none, and_true, true_and, and_false, false_and, and_self, or_true, true_or, or_false, false_or, not_true_eq_false, not_false_eq_true, ↓reduceIte, Int.reduceEq, Int.reduceLT, Int.reduceLE, Int.reduceToNat, Nat.reduceEqDiff, Nat.reduceAdd]
  · simp (disch := omega) only [e_X12_placeOf, b_X12_placeOf_0, b_X12_placeOf_9, b_X12_placeOf_12, b_X12_placeOf_21, b_X12_placeOf_24, b_X12_placeOf_33, b_X12_placeOf_34, b_X12_placeOf_35, b_X12_placeOf_46, b_X12_placeOf_49, b_X12_placeOf_62, b_X12_placeOf_65, b_X12_placeOf_79, b_X12_placeOf_80, b_X12_placeOf_81, b_X12_placeOf_92, b_X12_placeOf_95, b_X12_placeOf_108, b_X12_placeOf_111, b_X12_placeOf_125, b_X12_placeOf_126, b_X12_placeOf_127, b_X12_placeOf_133, b_X12_placeOf_140, b_X12_placeOf_143, b_X12_placeOf_151, b_X12_placeOf_152, b_X12_placeOf_153, b_X12_placeOf_157, b_X12_placeOf_168, b_X12_placeOf_171, b_X12_placeOf_182, b_X12_placeOf_183, c_within, zb_0, if_neg, qB_some, psh_some, psh_none, and_true, true_and, and_false, false_and, and_self, or_true, true_or, or_false, false_or, not_true_eq_false, not_false_eq_true, ↓reduceIte, Int.reduceEq, Int.reduceLT, Int.reduceLE, Int.reduceToNat, Nat.reduceEqDiff, Nat.reduceAdd]
    by_cases z : n = 0
    · simp (disch := omega) only [if_pos, if_neg, qB_some, psh_some, psh_none, and_true, true_and, and_false, false_and, and_self, or_true, true_or, or_false, false_or, not_true_eq_false, not_false_eq_true, ↓reduceIte, Int.reduceEq, Int.reduceLT, Int.reduceLE, Int.reduceToNat, Nat.reduceEqDiff, Nat.reduceAdd]
    · simp (disch := omega) only [if_neg, qB_some, psh_some, psh_none, and_true, true_and, and_false, false_and, and_self, or_true, true_or, or_false, false_or, not_true_eq_false, not_false_eq_true, ↓reduceIte, Int.reduceEq, Int.reduceLT, Int.reduceLE, Int.reduceToNat, Nat.reduceEqDiff, Nat.reduceAdd]
theorem m_addsHole {H : Nat} (h6 : v 63 6 = (H : Int)) (hH : H < 12) (a : Int) : qE L xs (d + 1) nX12_addsHole [(2, 63), (0, a)] (qS v) = some (some (0, (H : Int)), qS (pm_up (pm_up (pm_up (pm_up v 68 H a) 64 (90 + H) 1) 64 (102 + H) 1) 63 6 ((H : Int) + 1))) := by
  rw [e_X12_addsHole, b_X12_addsHole_0, h6, if_pos (by omega), Int.toNat_natCast, b_X12_addsHole_10, up_ne (by omega), h6, w32_id (by omega) (by omega), if_pos (by omega), show (90 + (H : Int)).toNat = 90 + H by omega, b_X12_addsHole_23, up_ne (by omega), up_ne (by omega), h6, w32_id (by omega) (by omega), if_pos (by omega), show (102 + (H : Int)).toNat = 102 + H by omega, b_X12_addsHole_36, up_ne (by omega), up_ne (by omega), up_ne (by omega), h6, w32_id (by omega) (by omega), b_X12_addsHole_46, up_eq, w32_id (by omega) (by omega), show (H : Int) + 1 - 1 = (H : Int) by omega]
/-- both have a hole more -/
theorem rR_hole {H : Nat} {a : Int} (h : rlR v) (hH : v 1 1 = (H : Int)) (hH2 : H < 12) (ha : 0 ≤ a ∧ a < 30) : rlR (pm_up (pm_up (pm_up (pm_up (pm_up (pm_up v 1 1 ((H : Int) + 1)) 15 H a) 68 H a) 64 (90 + H) 1) 64 (102 + H) 1) 63 6 ((H : Int) + 1)) := by
  have u : ∀ c j, ¬ (c = 1 ∧ j = 1) → ¬ (c = 15 ∧ j = H) → ¬ (c = 68 ∧ j = H) → ¬ (c = 64 ∧ (j = 90 + H ∨ j = 102 + H)) → ¬ (c = 63 ∧ j = 6) → pm_up (pm_up (pm_up (pm_up (pm_up (pm_up v 1 1 ((H : Int) + 1)) 15 H a) 68 H a) 64 (90 + H) 1) 64 (102 + H) 1) 63 6 ((H : Int) + 1) c j = v c j := fun c j q1 q2 q3 q4 q5 => by
    rw [up_ne (by omega), up_ne (by omega), up_ne (by omega), up_ne (by omega), up_ne (by omega), up_ne (by omega)]
  have nW : ∀ c j, ¬ dsW c j → pm_up (pm_up (pm_up (pm_up (pm_up (pm_up v 1 1 ((H : Int) + 1)) 15 H a) 68 H a) 64 (90 + H) 1) 64 (102 + H) 1) 63 6 ((H : Int) + 1) c j = v c j := fun c j q => by
    unfold dsW at q
    exact u c j (by omega) (by omega) (by omega) (by omega) (by omega)
  refine rlR_but h (rW_hole (a := a) h.1 hH hH2 ha ?_ ?_ ?_ ?_ ?_ ?_ (fun c j _ q1 q2 q3 q4 q5 => u c j q1 q2 q3 q4 q5)) (rlC_mono (v := v) ?_ ?_ (fun c j q q1 => nW c j (dsC_W q q1)) h.2.1) (fun c j q => nW c j (dsO_W q))
  · simp (disch := omega) only [up_ne, up_eq]
  · simp (disch := omega) only [up_ne, up_eq]
  · simp (disch := omega) only [up_ne, up_eq]
  · simp (disch := omega) only [up_ne, up_eq]
  · simp (disch := omega) only [up_ne, up_eq]
  · simp (disch := omega) only [up_ne, up_eq]
  · simp (disch := omega) only [up_ne, up_eq]
    omega
  · simp (disch := omega) only [up_ne, up_eq]
    omega
theorem opr_hole (h : rlR v) (a : Int) : opR L xs v nX11_hole nX12_hole 0 [(0, a)] := by
  have p1 := h.1.1
  have pL := rW_L h.1
  have pM := rM_L h.1
  have p6 := h.1.2.2.2.1.1
  obtain ⟨H, hH⟩ : ∃ H : Nat, v 1 1 = (H : Int) := ⟨(v 1 1).toNat, by omega⟩
  by_cases g : 0 ≤ a ∧ a < v 11 0
  · by_cases g2 : H < 12
    · refine ⟨(H : Int), pm_up (pm_up v 1 1 ((H : Int) + 1)) 15 H a, _, ?_, ?_, rR_hole (H := H) (a := a) h hH g2 (by omega)⟩
      · have := c_hole_ok (L := L) (xs := xs) (d := 994) (v := v) (a := a) g (by omega) (by omega)
        rw [hH, Int.toNat_natCast] at this
        exact this
      · have q := m_addsHole (L := L) (xs := xs) (d := 998) (v := pm_up (pm_up v 1 1 ((H : Int) + 1)) 15 H a) (H := H) (by rw [up_ne (by omega), up_ne (by omega)]; omega) g2 a
        rw [e_X12_hole, b_X12_hole_0, c_isYard (by rw [up_ne (by omega), up_ne (by omega)]; omega) (by rw [up_ne (by omega), up_ne (by omega)]; omega), up_ne (c := 15) (by omega), up_ne (c := 1) (by omega), qB_some, psh_some]
        simp (disch := omega) only [e_X12_hole, b_X12_hole_0, b_X12_hole_6, b_X12_hole_9, b_X12_hole_13, b_X12_hole_22, b_X12_hole_27, b_X12_hole_32, zb_0, if_pos, if_neg, up_ne, q, qB_some, psh_some, psh_none, and_true, true_and, and_false, false_and, and_self, or_true, true_or, or_false, false_or, not_true_eq_false, not_false_eq_true, ↓reduceIte, Int.reduceEq, Int.reduceLT, Int.reduceLE, Int.reduceToNat, Nat.reduceEqDiff, Nat.reduceAdd]
    · refine opR_no (r := -3) h (c_hole_full (d := 994) g (by omega)) ?_
      simp (disch := omega) only [e_X12_hole, b_X12_hole_0, b_X12_hole_6, b_X12_hole_9, b_X12_hole_13, b_X12_hole_22, b_X12_hole_27, b_X12_hole_32, c_isYard, zb_0, if_pos, if_neg, qB_some, psh_some, psh_none, and_true, true_and, and_false, false_and, and_self, or_true, true_or, or_false, false_or, not_true_eq_false, not_false_eq_true, ↓reduceIte, Int.reduceEq, Int.reduceLT, Int.reduceLE, Int.reduceToNat, Nat.reduceEqDiff, Nat.reduceAdd]
  · refine opR_no (r := -1) h (c_hole_bad (d := 994) g) ?_
    simp (disch := omega) only [e_X12_hole, b_X12_hole_0, b_X12_hole_6, b_X12_hole_9, b_X12_hole_13, b_X12_hole_22, b_X12_hole_27, b_X12_hole_32, c_isYard, zb_0, if_neg, qB_some, psh_some, psh_none, and_true, true_and, and_false, false_and, and_self, or_true, true_or, or_false, false_or, not_true_eq_false, not_false_eq_true, ↓reduceIte, Int.reduceEq, Int.reduceLT, Int.reduceLE, Int.reduceToNat, Nat.reduceEqDiff, Nat.reduceAdd]
theorem cr_addLane {H : Nat} (hH : v 1 2 = (H : Int)) (hH2 : H < 12) (a b : Int) : qE L xs (d + 4) nX9_addLane [(2, 1), (0, a), (0, b)] (qS v) = some (some (0, (H : Int)), qS (pm_up (pm_up (pm_up v 1 2 ((H : Int) + 1)) 16 H a) 17 H b)) := by
  rw [e_X9_addLane, b_X9_addLane_0, if_pos (by omega), b_X9_addLane_9, hH, w32_id (z := (H : Int) + 1) (by omega) (by omega), b_X9_addLane_19, up_eq, w32_id (by omega) (by omega), show (H : Int) + 1 - 1 = (H : Int) by omega, c_set_in 13 _ _ (by omega) (by omega) (by omega) (by rw [hm_13, up_eq]; omega) (by omega), qB_some, psh_none, b_X9_addLane_32, up_ne (by omega), up_eq, w32_id (by omega) (by omega), show (H : Int) + 1 - 1 = (H : Int) by omega, c_set_in 14 _ _ (by omega) (by omega) (by omega) (by rw [hm_14, up_ne (by omega), up_eq]; omega) (by omega), qB_some, psh_none, b_X9_addLane_45, up_ne (by omega), up_ne (by omega), up_eq, w32_id (by omega) (by omega), show (H : Int) + 1 - 1 = (H : Int) by omega]
  rfl
/-- both have a lane more -/
theorem rR_lane {H : Nat} {a b : Int} (h : rlR v) (hH : v 1 2 = (H : Int)) (hH2 : H < 12) (ha : 0 ≤ a ∧ a < 60) (hb : 0 ≤ b ∧ b < 60) : rlR (pm_up (pm_up (pm_up (pm_up (pm_up (pm_up (pm_up (pm_up v 1 2 ((H : Int) + 1)) 16 H a) 17 H b) 69 H a) 70 H b) 64 (114 + H) 1) 64 (126 + H) 1) 63 8 ((H : Int) + 1)) := by
  have u : ∀ c j, ¬ (c = 1 ∧ j = 2) → ¬ ((c = 16 ∨ c = 17) ∧ j = H) → ¬ ((c = 69 ∨ c = 70) ∧ j = H) → ¬ (c = 64 ∧ (j = 114 + H ∨ j = 126 + H)) → ¬ (c = 63 ∧ j = 8) → pm_up (pm_up (pm_up (pm_up (pm_up (pm_up (pm_up (pm_up v 1 2 ((H : Int) + 1)) 16 H a) 17 H b) 69 H a) 70 H b) 64 (114 + H) 1) 64 (126 + H) 1) 63 8 ((H : Int) + 1) c j = v c j := fun c j q1 q2 q3 q4 q5 => by
    rw [up_ne (by omega), up_ne (by omega), up_ne (by omega), up_ne (by omega), up_ne (by omega), up_ne (by omega), up_ne (by omega), up_ne (by omega)]
  have nW : ∀ c j, ¬ dsW c j → pm_up (pm_up (pm_up (pm_up (pm_up (pm_up (pm_up (pm_up v 1 2 ((H : Int) + 1)) 16 H a) 17 H b) 69 H a) 70 H b) 64 (114 + H) 1) 64 (126 + H) 1) 63 8 ((H : Int) + 1) c j = v c j := fun c j q => by
    unfold dsW at q
    exact u c j (by omega) (by omega) (by omega) (by omega) (by omega)
  refine rlR_but h (rW_lane (a := a) (b := b) h.1 hH hH2 ha hb ?_ ?_ ?_ ?_ ?_ ?_ ?_ ?_ (fun c j _ q1 q2 q3 q4 q5 => u c j q1 q2 q3 q4 q5)) (rlC_mono (v := v) ?_ ?_ (fun c j q q1 => nW c j (dsC_W q q1)) h.2.1) (fun c j q => nW c j (dsO_W q))
  · simp (disch := omega) only [up_ne, up_eq]
  · simp (disch := omega) only [up_ne, up_eq]
  · simp (disch := omega) only [up_ne, up_eq]
  · simp (disch := omega) only [up_ne, up_eq]
  · simp (disch := omega) only [up_ne, up_eq]
  · simp (disch := omega) only [up_ne, up_eq]
  · simp (disch := omega) only [up_ne, up_eq]
  · simp (disch := omega) only [up_ne, up_eq]
  · simp (disch := omega) only [up_ne, up_eq]
    omega
  · simp (disch := omega) only [up_ne, up_eq]
    omega
theorem opr_lane (h : rlR v) (y : Int) (hy : y < 2147483648) : opR L xs v nX11_lane nX12_lane 0 [(0, y)] := by
  have p2 := h.1.2.1
  have pL := rW_L h.1
  have pM := rM_L h.1
  have p8 := h.1.2.2.2.1.2
  obtain ⟨H, hH⟩ : ∃ H : Nat, v 1 2 = (H : Int) := ⟨(v 1 2).toNat, by omega⟩
  by_cases g : 0 ≤ y ∧ y / 100 < 2 * v 11 0 ∧ y % 100 < 2 * v 11 0
  · have y1 : w32 (Int.tdiv y 100) = y / 100 := by rw [td_pos 100 (by omega), w32_id (by omega) (by omega)]
    have y2 : Int.tmod y 100 = y % 100 := tm_pos 100 (by omega)
    by_cases g1 : y / 100 = y % 100
    · refine opR_no (r := -1) h ?_ ?_
      · rw [e_X11_lane, b_X11_lane_0, c_arePlaces (by omega) (by omega) y hy, qB_some, psh_some, b_X11_lane_5, zb_0, if_pos g, b_X11_lane_8, y1, y2, if_pos g1, b_X11_lane_19]
      · rw [e_X12_lane, b_X12_lane_0, if_neg (by omega), b_X12_lane_4, y1, c_isPlace (by omega) (by omega), qB_some, psh_some, b_X12_lane_13, zb_0, if_pos (by omega), b_X12_lane_16, y2, c_isPlace (by omega) (by omega), qB_some, psh_some, b_X12_lane_25, zb_0, if_pos (by omega), b_X12_lane_28, y1, y2, if_pos g1, b_X12_lane_39]
    · have mb : ∀ w : Nat → Nat → Int, w 64 140 = v 64 140 → qE L xs 1000 nX12_lane [(2, 63), (0, y)] (qS w) = qG L xs 999 CX12_lane 41 [(2, 63), (0, y)] [] (qS w) := fun w hw => by
        rw [e_X12_lane, b_X12_lane_0, if_neg (by omega), b_X12_lane_4, y1, c_isPlace (by omega) (by omega), qB_some, psh_some, b_X12_lane_13, zb_0, if_pos (by omega), b_X12_lane_16, y2, c_isPlace (by omega) (by omega), qB_some, psh_some, b_X12_lane_25, zb_0, if_pos (by omega), b_X12_lane_28, y1, y2, if_neg g1]
      by_cases g2 : H < 12
      · refine ⟨(H : Int), pm_up (pm_up (pm_up v 1 2 ((H : Int) + 1)) 16 H (y / 100)) 17 H (y % 100), _, ?_, ?_, rR_lane (H := H) (a := y / 100) (b := y % 100) h hH g2 (by omega) (by omega)⟩
        · rw [e_X11_lane, b_X11_lane_0, c_arePlaces (by omega) (by omega) y hy, qB_some, psh_some, b_X11_lane_5, zb_0, if_pos g, b_X11_lane_8, y1, y2, if_neg g1, b_X11_lane_21, if_pos (by omega), b_X11_lane_38, y1, y2, cr_addLane hH g2, qB_some, psh_some, b_X11_lane_53]
        · rw [mb _ (by simp (disch := omega) only [up_ne])]
          simp (disch := omega) only [e_X12_lane, b_X12_lane_0, b_X12_lane_4, b_X12_lane_13, b_X12_lane_16, b_X12_lane_25, b_X12_lane_28, b_X12_lane_39, b_X12_lane_41, b_X12_lane_50, b_X12_lane_53, b_X12_lane_66, b_X12_lane_79, b_X12_lane_92, b_X12_lane_105, b_X12_lane_115, y1, y2, up_ne, up_eq, p8, hH, if_pos, if_neg, w32_id, Int.toNat_natCast, qB_some, psh_some, psh_none, and_true, true_and, and_false, false_and, and_self, or_true, true_or, or_false, false_or, not_true_eq_false, not_false_eq_true, ↓reduceIte, Int.reduceEq, Int.reduceLT, Int.reduceLE, Int.reduceToNat, Nat.reduceEqDiff, Nat.reduceAdd]
          rw [show (114 + (H : Int)).toNat = 114 + H by omega, show (126 + (H : Int)).toNat = 126 + H by omega, show (H : Int) + 1 - 1 = (H : Int) by omega]
      · refine opR_no (r := -3) h ?_ ?_
        · rw [e_X11_lane, b_X11_lane_0, c_arePlaces (by omega) (by omega) y hy, qB_some, psh_some, b_X11_lane_5, zb_0, if_pos g, b_X11_lane_8, y1, y2, if_neg g1, b_X11_lane_21, if_neg (by omega), b_X11_lane_33, b_X11_lane_53]
        · rw [mb v rfl, b_X12_lane_41, if_pos (by omega), b_X12_lane_50]
  · refine opR_no (r := -1) h ?_ ?_
    · rw [e_X11_lane, b_X11_lane_0, c_arePlaces (by omega) (by omega) y hy, qB_some, psh_some, b_X11_lane_5, zb_0, if_neg g, b_X11_lane_19]
    · rw [e_X12_lane, b_X12_lane_0]
      by_cases g1 : y < 0
      · rw [if_pos g1, b_X12_lane_39]
      · have y1 : w32 (Int.tdiv y 100) = y / 100 := by rw [td_pos 100 (by omega), w32_id (by omega) (by omega)]
        have y2 : Int.tmod y 100 = y % 100 := tm_pos 100 (by omega)
        rw [if_neg g1, b_X12_lane_4, y1, c_isPlace (by omega) (by omega), qB_some, psh_some, b_X12_lane_13, zb_0]
        by_cases g2 : y / 100 < 2 * v 11 0
        · rw [if_pos (by omega), b_X12_lane_16, y2, c_isPlace (by omega) (by omega), qB_some, psh_some, b_X12_lane_25, zb_0, if_neg (by omega), b_X12_lane_39]
        · rw [if_neg (by omega), b_X12_lane_39]
end OA2
