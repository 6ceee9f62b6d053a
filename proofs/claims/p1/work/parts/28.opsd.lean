/-! THE FIRST STATE's calls: owners, images -/
section OD
variable {L : Nat} {xs : Nat → Int} {d : Nat} {v : Nat → Nat → Int} {a b c x y z : Int}
theorem cd_hasOwner (a : Int) : qE L xs (d + 1) nX2_hasOwner [(0, a)] (qS v) = some (some (0, zb (0 ≤ a ∧ a < 6)), qS v) := by
  simp only [e_X2_hasOwner, b_X2_hasOwner_0, b_X2_hasOwner_4, b_X2_hasOwner_10, b_X2_hasOwner_14, b_X2_hasOwner_15, qB_some, psh_some, psh_none, and_true, true_and, and_false, false_and, and_self, or_true, true_or, or_false, false_or, not_true_eq_false, not_false_eq_true, ↓reduceIte, Int.reduceEq, Int.reduceLT, Int.reduceLE, Int.reduceToNat, Nat.reduceEqDiff, Nat.reduceAdd]
  by_cases h1 : a < 0
  · rw [if_pos h1, zb_f (by omega)]
  · by_cases h2 : a < 6
    · rw [if_neg h1, if_pos h2, zb_t (by omega)]
    · rw [if_neg h1, if_neg h2, zb_f (by omega)]
theorem cd_lent (a b : Int) (h1 : 0 ≤ a ∧ a < 6) (h2 : 0 ≤ b ∧ b < 6) : qE L xs (d + 2) nX2_lent [(2, 41), (0, a), (0, b)] (qS v) = some (some (0, v 42 (a * 6 + b).toNat), qS v) := by
  simp (disch := omega) only [e_X2_lent_41, b_X2_lent_41_0, b_X2_lent_41_4, b_X2_lent_41_7, b_X2_lent_41_11, b_X2_lent_41_14, b_X2_lent_41_25, b_X2_lent_41_28, b_X2_lent_41_29, cd_hasOwner, zb_0, if_pos h1, if_pos h2, w32_id, if_pos, qB_some, psh_some, psh_none, and_true, true_and, and_false, false_and, and_self, or_true, true_or, or_false, false_or, not_true_eq_false, not_false_eq_true, ↓reduceIte, Int.reduceEq, Int.reduceLT, Int.reduceLE, Int.reduceToNat, Nat.reduceEqDiff, Nat.reduceAdd]
theorem lp_owed (hz : ∀ i, i < 36 → v 42 i = 0) (a : Int) (h1 : 0 ≤ a ∧ a < 6) : ∀ (n j : Nat), j + n = 6 → qG L xs (d + 2) CX2_owed 4 [(2, 41), (0, a), (0, 0), (0, (j : Int))] [] (qS v) = some (some (0, 0), qS v)
  | 0, j, hj => by
    rw [b_X2_owed_41_4, if_neg (by omega), b_X2_owed_41_32]
  | n + 1, j, hj => by
    rw [b_X2_owed_41_4, if_pos (by omega), b_X2_owed_41_10, cd_lent _ _ (by omega) h1, qB_some, psh_some, b_X2_owed_41_17, cd_lent _ _ h1 (by omega), qB_some, psh_some, b_X2_owed_41_23, hz _ (by omega), hz _ (by omega), show w32 (0 + w32 (0 - 0)) = 0 from rfl, w32_id (by omega) (by omega)]
    have h3 := lp_owed hz a h1 n (j + 1) (by omega)
    rw [show ((j + 1 : Nat) : Int) = (j : Int) + 1 by omega] at h3
    exact h3
theorem cd_ring (hz : ∀ i, i < 36 → v 43 i = 0) (a b c : Int) (h1 : 0 ≤ a ∧ a < 36) (h2 : 0 ≤ b ∧ b < 36) (h3 : 0 ≤ c ∧ c < 36) : qE L xs (d + 1) nX2_clearRing [(2, 41), (0, a), (0, b), (0, c)] (qS v) = some (some (0, 0), qS v) := by
  rw [e_X2_clearRing_41, b_X2_clearRing_41_0, if_pos h1, b_X2_clearRing_41_6, if_pos h2, b_X2_clearRing_41_12, if_pos h3, b_X2_clearRing_41_18, hz _ (by omega), hz _ (by omega), hz _ (by omega), if_neg (by decide), b_X2_clearRing_41_31]
theorem lp_ring3 (hz : ∀ i, i < 36 → v 43 i = 0) (a b : Int) (h1 : 0 ≤ a ∧ a < 6) (h2 : 0 ≤ b ∧ b < 6) : ∀ (n j : Nat), j + n = 6 → qG L xs (d + 1) CX2_clearFirstRing 18 [(2, 41), (0, a), (0, b), (0, (j : Int))] [] (qS v) = qG L xs (d + 1) CX2_clearFirstRing 57 [(2, 41), (0, a), (0, b), (0, 6)] [] (qS v)
  | 0, j, hj => by
    rw [b_X2_clearFirstRing_41_18, if_neg (by omega), show (j : Int) = 6 by omega]
  | n + 1, j, hj => by
    rw [b_X2_clearFirstRing_41_18, if_pos (by omega), b_X2_clearFirstRing_41_24]
    simp (disch := omega) only [w32_id]
    rw [cd_ring hz _ _ _ (by omega) (by omega) (by omega), qB_some, psh_some, b_X2_clearFirstRing_41_46, if_pos rfl, b_X2_clearFirstRing_41_51, w32_id (by omega) (by omega)]
    have h3 := lp_ring3 hz a b h1 h2 n (j + 1) (by omega)
    rw [show ((j + 1 : Nat) : Int) = (j : Int) + 1 by omega] at h3
    exact h3
theorem lp_ring2 (hz : ∀ i, i < 36 → v 43 i = 0) (a : Int) (h1 : 0 ≤ a ∧ a < 6) : ∀ (n j : Nat) (u : pm_V), j + n = 6 → ∃ u', qG L xs (d + 1) CX2_clearFirstRing 10 [(2, 41), (0, a), (0, (j : Int)), u] [] (qS v) = qG L xs (d + 1) CX2_clearFirstRing 63 [(2, 41), (0, a), (0, 6), u'] [] (qS v)
  | 0, j, u, hj => by
    refine ⟨u, ?_⟩
    rw [b_X2_clearFirstRing_41_10, if_neg (by omega), show (j : Int) = 6 by omega]
  | n + 1, j, u, hj => by
    obtain ⟨u', h3⟩ := lp_ring2 hz a h1 n (j + 1) (0, 6) (by omega)
    refine ⟨u', ?_⟩
    rw [b_X2_clearFirstRing_41_10, if_pos (by omega), b_X2_clearFirstRing_41_16]
    have h4 := lp_ring3 (L := L) (xs := xs) (d := d) hz a j h1 (by omega) 6 0 (by omega)
    refine Eq.trans h4 ?_
    rw [b_X2_clearFirstRing_41_57, w32_id (by omega) (by omega)]
    rw [show ((j + 1 : Nat) : Int) = (j : Int) + 1 by omega] at h3
    exact h3
theorem lp_ring1 (hz : ∀ i, i < 36 → v 43 i = 0) : ∀ (n j : Nat) (u w : pm_V), j + n = 6 → qG L xs (d + 1) CX2_clearFirstRing 2 [(2, 41), (0, (j : Int)), u, w] [] (qS v) = some (some (0, 0), qS v)
  | 0, j, u, w, hj => by
    rw [b_X2_clearFirstRing_41_2, if_neg (by omega), b_X2_clearFirstRing_41_69]
  | n + 1, j, u, w, hj => by
    rw [b_X2_clearFirstRing_41_2, if_pos (by omega), b_X2_clearFirstRing_41_8]
    obtain ⟨u', h4⟩ := lp_ring2 (L := L) (xs := xs) (d := d) hz j (by omega) 6 0 w (by omega)
    refine Eq.trans h4 ?_
    rw [b_X2_clearFirstRing_41_63, w32_id (by omega) (by omega)]
    have h3 := lp_ring1 hz n (j + 1) (0, 6) u' (by omega)
    rw [show ((j + 1 : Nat) : Int) = (j : Int) + 1 by omega] at h3
    exact h3
theorem cd_firstRing (hz : ∀ i, i < 36 → v 43 i = 0) : qE L xs (d + 2) nX2_clearFirstRing [(2, 41)] (qS v) = some (some (0, 0), qS v) := by
  rw [e_X2_clearFirstRing_41, b_X2_clearFirstRing_41_0]
  exact lp_ring1 hz 6 0 _ _ (by omega)
theorem cd_cleared (hz : ∀ i, i < 36 → v 42 i = 0) (a b : Int) (h1 : 0 ≤ a ∧ a < 6) (h2 : 0 ≤ b ∧ b < 6) : qE L xs (d + 3) nX2_lentWhenCleared [(2, 41), (0, a), (0, b)] (qS v) = some (some (0, 0), qS (pm_cpy v 42 43 0 0 36)) := by
  have hz' : ∀ i, i < 36 → pm_cpy v 42 43 0 0 36 43 i = 0 := fun i hi => (if_pos (by omega)).trans (hz _ (by omega))
  rw [e_X2_lentWhenCleared_41, b_X2_lentWhenCleared_41_0]
  refine (qG_cpy (s := 42) (t := 43) (e := 0) (ns := 36) (nt := 36) rfl rfl rfl rfl (Or.inl rfl) (by omega) (by omega) (by omega) (by omega) (by omega) rfl (nr_of rfl) (nr_of rfl)).trans ?_
  show qG L xs (d + 2) CX2_lentWhenCleared 18 _ _ (qS (pm_cpy v 42 43 0 0 36)) = _
  rw [b_X2_lentWhenCleared_41_18, b_X2_lentWhenCleared_41_23, if_pos (by omega), b_X2_lentWhenCleared_41_33, if_neg (by omega), b_X2_lentWhenCleared_41_37, cd_firstRing hz', qB_some, psh_some, b_X2_lentWhenCleared_41_41, b_X2_lentWhenCleared_41_23, if_pos (by decide), b_X2_lentWhenCleared_41_33, if_pos rfl, b_X2_lentWhenCleared_41_48, cd_hasOwner, qB_some, psh_some, b_X2_lentWhenCleared_41_52, zb_0, if_pos h1, b_X2_lentWhenCleared_41_55, cd_hasOwner, qB_some, psh_some, b_X2_lentWhenCleared_41_59, zb_0, if_pos h2, b_X2_lentWhenCleared_41_62]
  simp (disch := omega) only [w32_id]
  rw [if_pos (by omega), hz' _ (by omega), b_X2_lentWhenCleared_41_73, b_X2_lentWhenCleared_41_77]
theorem cd_areOwners (y : Int) (hy : y < 2147483648) : qE L xs (d + 2) nX11_areOwners [(0, y)] (qS v) = some (some (0, zb (0 ≤ y ∧ y / 10 < 6 ∧ y % 10 < 6 ∧ y / 10 ≠ y % 10)), qS v) := by
  by_cases h0 : 0 ≤ y
  · simp (disch := omega) only [e_X11_areOwners, b_X11_areOwners_0, b_X11_areOwners_4, b_X11_areOwners_11, b_X11_areOwners_14, b_X11_areOwners_21, b_X11_areOwners_24, b_X11_areOwners_35, b_X11_areOwners_39, b_X11_areOwners_40, cd_hasOwner, zb_0, td_pos, tm_pos, w32_id, if_neg, qB_some, psh_some, psh_none, and_true, true_and, and_false, false_and, and_self, or_true, true_or, or_false, false_or, not_true_eq_false, not_false_eq_true, ↓reduceIte, Int.reduceEq, Int.reduceLT, Int.reduceLE, Int.reduceToNat, Nat.reduceEqDiff, Nat.reduceAdd]
    by_cases h1 : 0 ≤ y / 10 ∧ y / 10 < 6
    · rw [if_pos h1]
      by_cases h2 : 0 ≤ y % 10 ∧ y % 10 < 6
      · rw [if_pos h2]
        by_cases h3 : y / 10 = y % 10
        · rw [if_pos h3, zb_f (by omega)]
        · rw [if_neg h3, zb_t (by omega)]
      · rw [if_neg h2, zb_f (by omega)]
    · rw [if_neg h1, zb_f (by omega)]
  · simp (disch := omega) only [e_X11_areOwners, b_X11_areOwners_0, b_X11_areOwners_4, b_X11_areOwners_11, b_X11_areOwners_14, b_X11_areOwners_21, b_X11_areOwners_24, b_X11_areOwners_35, b_X11_areOwners_39, b_X11_areOwners_40, if_pos, zb_f, qB_some, psh_some, psh_none, and_true, true_and, and_false, false_and, and_self, or_true, true_or, or_false, false_or, not_true_eq_false, not_false_eq_true, ↓reduceIte, Int.reduceEq, Int.reduceLT, Int.reduceLE, Int.reduceToNat, Nat.reduceEqDiff, Nat.reduceAdd]
theorem md_isOwner (a : Int) : qE L xs (d + 2) nX12_isOwner [(0, a)] (qS v) = some (some (0, zb (0 ≤ a ∧ a < 6)), qS v) := by
  simp only [e_X12_isOwner, b_X12_isOwner_0, b_X12_isOwner_9, c_within, zb_r, qB_some, psh_some, psh_none, and_true, true_and, and_false, false_and, and_self, or_true, true_or, or_false, false_or, not_true_eq_false, not_false_eq_true, ↓reduceIte, Int.reduceEq, Int.reduceLT, Int.reduceLE, Int.reduceToNat, Nat.reduceEqDiff, Nat.reduceAdd]
  exact ret_zb (by omega)
theorem md_areOwners (y : Int) (hy : y < 2147483648) : qE L xs (d + 3) nX12_areOwners [(0, y)] (qS v) = some (some (0, zb (0 ≤ y ∧ y / 10 < 6 ∧ y % 10 < 6 ∧ y / 10 ≠ y % 10)), qS v) := by
  by_cases h0 : 0 ≤ y
  · simp (disch := omega) only [e_X12_areOwners, b_X12_areOwners_0, b_X12_areOwners_4, b_X12_areOwners_11, b_X12_areOwners_14, b_X12_areOwners_21, b_X12_areOwners_24, b_X12_areOwners_35, b_X12_areOwners_39, b_X12_areOwners_40, md_isOwner, zb_0, td_pos, tm_pos, w32_id, if_neg, qB_some, psh_some, psh_none, and_true, true_and, and_false, false_and, and_self, or_true, true_or, or_false, false_or, not_true_eq_false, not_false_eq_true, ↓reduceIte, Int.reduceEq, Int.reduceLT, Int.reduceLE, Int.reduceToNat, Nat.reduceEqDiff, Nat.reduceAdd]
    by_cases h1 : 0 ≤ y / 10 ∧ y / 10 < 6
    · rw [if_pos h1]
      by_cases h2 : 0 ≤ y % 10 ∧ y % 10 < 6
      · rw [if_pos h2]
        by_cases h3 : y / 10 = y % 10
        · rw [if_pos h3, zb_f (by omega)]
        · rw [if_neg h3, zb_t (by omega)]
      · rw [if_neg h2, zb_f (by omega)]
    · rw [if_neg h1, zb_f (by omega)]
  · simp (disch := omega) only [e_X12_areOwners, b_X12_areOwners_0, b_X12_areOwners_4, b_X12_areOwners_11, b_X12_areOwners_14, b_X12_areOwners_21, b_X12_areOwners_24, b_X12_areOwners_35, b_X12_areOwners_39, b_X12_areOwners_40, if_pos, zb_f, qB_some, psh_some, psh_none, and_true, true_and, and_false, false_and, and_self, or_true, true_or, or_false, false_or, not_true_eq_false, not_false_eq_true, ↓reduceIte, Int.reduceEq, Int.reduceLT, Int.reduceLE, Int.reduceToNat, Nat.reduceEqDiff, Nat.reduceAdd]
theorem op_21 (h : Fresh v) (y n : Int) (hy : y < 2147483648) : pOK 6 xs v nX11_lend nX12_lend 0 [(0, y), (0, n)] := by
  refine pok (r := if (0 ≤ y ∧ y / 10 < 6 ∧ y % 10 < 6 ∧ y / 10 ≠ y % 10) ∧ -99 ≤ n ∧ n ≤ 99 then (if n < 0 then -5 else n) else -1) ?_ (fun v h => ?_)
  · by_cases h1 : 0 ≤ y ∧ y / 10 < 6 ∧ y % 10 < 6 ∧ y / 10 ≠ y % 10
    · by_cases h2 : -99 ≤ n ∧ n ≤ 99
      · rw [if_pos ⟨h1, h2⟩]
        have e := cd_lent (L := 6) (xs := xs) (d := 997) (v := v) (y / 10) (y % 10) (by omega) (by omega)
        rw [f_42_0_r h _ (by omega) (by omega)] at e
        by_cases h3 : n < 0
        · rw [if_pos h3]
          exact ⟨v, M0_of h, by simp (disch := omega) only [e_X11_lend, b_X11_lend_0, b_X11_lend_4, b_X11_lend_7, b_X11_lend_13, b_X11_lend_19, b_X11_lend_21, b_X11_lend_36, b_X11_lend_43, b_X11_lend_50, b_X11_lend_53, b_X11_lend_69, cd_areOwners, zb_0, if_pos h1, td_pos, tm_pos, w32_id, e, if_pos, if_neg, qB_some, psh_some, psh_none, and_true, true_and, and_false, false_and, and_self, or_true, true_or, or_false, false_or, not_true_eq_false, not_false_eq_true, ↓reduceIte, Int.reduceEq, Int.reduceLT, Int.reduceLE, Int.reduceToNat, Nat.reduceEqDiff, Nat.reduceAdd]⟩
        · rw [if_neg h3]
          refine ⟨_, ?_, by simp (disch := omega) only [e_X11_lend, b_X11_lend_0, b_X11_lend_4, b_X11_lend_7, b_X11_lend_13, b_X11_lend_19, b_X11_lend_21, b_X11_lend_36, b_X11_lend_43, b_X11_lend_50, b_X11_lend_53, b_X11_lend_69, cd_areOwners, zb_0, if_pos h1, td_pos, tm_pos, w32_id, e, if_pos, if_neg, Int.zero_add, e_X2_set_41, b_X2_set_41_0, b_X2_set_41_4, b_X2_set_41_7, b_X2_set_41_11, b_X2_set_41_14, b_X2_set_41_26, cd_hasOwner, qB_some, psh_some, psh_none, and_true, true_and, and_false, false_and, and_self, or_true, true_or, or_false, false_or, not_true_eq_false, not_false_eq_true, ↓reduceIte, Int.reduceEq, Int.reduceLT, Int.reduceLE, Int.reduceToNat, Nat.reduceEqDiff, Nat.reduceAdd]; rfl⟩
          exact M0_up (M0_of h) (by decide)
      · rw [if_neg (fun q => h2 q.2)]
        by_cases h3 : n < -99
        · exact ⟨v, M0_of h, by simp (disch := omega) only [e_X11_lend, b_X11_lend_0, b_X11_lend_4, b_X11_lend_7, b_X11_lend_13, b_X11_lend_19, b_X11_lend_21, b_X11_lend_36, b_X11_lend_43, b_X11_lend_50, b_X11_lend_53, b_X11_lend_69, cd_areOwners, zb_0, if_pos h1, if_pos, if_neg, qB_some, psh_some, psh_none, and_true, true_and, and_false, false_and, and_self, or_true, true_or, or_false, false_or, not_true_eq_false, not_false_eq_true, ↓reduceIte, Int.reduceEq, Int.reduceLT, Int.reduceLE, Int.reduceToNat, Nat.reduceEqDiff, Nat.reduceAdd]⟩
        · exact ⟨v, M0_of h, by simp (disch := omega) only [e_X11_lend, b_X11_lend_0, b_X11_lend_4, b_X11_lend_7, b_X11_lend_13, b_X11_lend_19, b_X11_lend_21, b_X11_lend_36, b_X11_lend_43, b_X11_lend_50, b_X11_lend_53, b_X11_lend_69, cd_areOwners, zb_0, if_pos h1, if_pos, if_neg, qB_some, psh_some, psh_none, and_true, true_and, and_false, false_and, and_self, or_true, true_or, or_false, false_or, not_true_eq_false, not_false_eq_true, ↓reduceIte, Int.reduceEq, Int.reduceLT, Int.reduceLE, Int.reduceToNat, Nat.reduceEqDiff, Nat.reduceAdd]⟩
    · rw [if_neg (fun q => h1 q.1)]
      exact ⟨v, M0_of h, by simp (disch := omega) only [e_X11_lend, b_X11_lend_0, b_X11_lend_4, b_X11_lend_7, b_X11_lend_13, b_X11_lend_19, b_X11_lend_21, b_X11_lend_36, b_X11_lend_43, b_X11_lend_50, b_X11_lend_53, b_X11_lend_69, cd_areOwners, zb_0, if_neg h1, qB_some, psh_some, psh_none, and_true, true_and, and_false, false_and, and_self, or_true, true_or, or_false, false_or, not_true_eq_false, not_false_eq_true, ↓reduceIte, Int.reduceEq, Int.reduceLT, Int.reduceLE, Int.reduceToNat, Nat.reduceEqDiff, Nat.reduceAdd]⟩
  · by_cases h1 : 0 ≤ y ∧ y / 10 < 6 ∧ y % 10 < 6 ∧ y / 10 ≠ y % 10
    · by_cases h2 : -99 ≤ n ∧ n ≤ 99
      · rw [if_pos ⟨h1, h2⟩]
        have e := g_79_0_r h (6 * (y / 10) + y % 10).toNat (by omega) (by omega)
        by_cases h3 : n < 0
        · rw [if_pos h3]
          exact ⟨v, by simp (disch := omega) only [e_X12_lend, b_X12_lend_0, b_X12_lend_4, b_X12_lend_7, b_X12_lend_18, b_X12_lend_21, b_X12_lend_23, b_X12_lend_42, b_X12_lend_52, b_X12_lend_55, b_X12_lend_58, b_X12_lend_65, b_X12_lend_68, b_X12_lend_74, md_areOwners, c_within, zb_0, if_pos h1, td_pos, tm_pos, w32_id, w64_id, e, if_pos, if_neg, Int.zero_add, qB_some, psh_some, psh_none, and_true, true_and, and_false, false_and, and_self, or_true, true_or, or_false, false_or, not_true_eq_false, not_false_eq_true, ↓reduceIte, Int.reduceEq, Int.reduceLT, Int.reduceLE, Int.reduceToNat, Nat.reduceEqDiff, Nat.reduceAdd]⟩
        · rw [if_neg h3]
          exact ⟨_, by simp (disch := omega) only [e_X12_lend, b_X12_lend_0, b_X12_lend_4, b_X12_lend_7, b_X12_lend_18, b_X12_lend_21, b_X12_lend_23, b_X12_lend_42, b_X12_lend_52, b_X12_lend_55, b_X12_lend_58, b_X12_lend_65, b_X12_lend_68, b_X12_lend_74, md_areOwners, c_within, zb_0, if_pos h1, td_pos, tm_pos, w32_id, w64_id, e, if_pos, if_neg, up_eq, Int.zero_add, qB_some, psh_some, psh_none, and_true, true_and, and_false, false_and, and_self, or_true, true_or, or_false, false_or, not_true_eq_false, not_false_eq_true, ↓reduceIte, Int.reduceEq, Int.reduceLT, Int.reduceLE, Int.reduceToNat, Nat.reduceEqDiff, Nat.reduceAdd]; rfl⟩
      · rw [if_neg (fun q => h2 q.2)]
        exact ⟨v, by simp (disch := omega) only [e_X12_lend, b_X12_lend_0, b_X12_lend_4, b_X12_lend_7, b_X12_lend_18, b_X12_lend_21, b_X12_lend_23, b_X12_lend_42, b_X12_lend_52, b_X12_lend_55, b_X12_lend_58, b_X12_lend_65, b_X12_lend_68, b_X12_lend_74, md_areOwners, c_within, zb_0, if_pos h1, if_neg, qB_some, psh_some, psh_none, and_true, true_and, and_false, false_and, and_self, or_true, true_or, or_false, false_or, not_true_eq_false, not_false_eq_true, ↓reduceIte, Int.reduceEq, Int.reduceLT, Int.reduceLE, Int.reduceToNat, Nat.reduceEqDiff, Nat.reduceAdd]⟩
    · rw [if_neg (fun q => h1 q.1)]
      exact ⟨v, by simp (disch := omega) only [e_X12_lend, b_X12_lend_0, b_X12_lend_4, b_X12_lend_7, b_X12_lend_18, b_X12_lend_21, b_X12_lend_23, b_X12_lend_42, b_X12_lend_52, b_X12_lend_55, b_X12_lend_58, b_X12_lend_65, b_X12_lend_68, b_X12_lend_74, md_areOwners, zb_0, if_neg h1, qB_some, psh_some, psh_none, and_true, true_and, and_false, false_and, and_self, or_true, true_or, or_false, false_or, not_true_eq_false, not_false_eq_true, ↓reduceIte, Int.reduceEq, Int.reduceLT, Int.reduceLE, Int.reduceToNat, Nat.reduceEqDiff, Nat.reduceAdd]⟩
def pm_cp (v : Nat → Nat → Int) (s t lo hi : Nat) : Nat → Nat → Int := fun a i => if a = t ∧ lo ≤ i ∧ i < hi then v s i else v a i
theorem pm_cp_step {s t j n : Nat} (hst : s ≠ t) : pm_cp (pm_up v t (j : Int).toNat (v s (j : Int).toNat)) s t (j + 1) (j + 1 + n) = pm_cp v s t j (j + (n + 1)) := by
  funext a i
  unfold pm_cp
  by_cases h1 : a = t ∧ j + 1 ≤ i ∧ i < j + 1 + n
  · rw [if_pos h1, if_pos (by omega), up_ne (by omega)]
  · rw [if_neg h1]
    by_cases h2 : a = t ∧ i = j
    · rw [if_pos (by omega), h2.1, h2.2, show (j : Int).toNat = j by omega, up_eq]
    · rw [if_neg (by omega), up_ne (by omega)]
theorem pm_cp_0 {s t j : Nat} : pm_cp v s t j (j + 0) = v := by
  funext a i
  exact if_neg (by omega)
theorem lp_left (x1 x2 x3 : Int) : ∀ (n j : Nat) (v : Nat → Nat → Int), j + n = 36 → qG L xs d CX12_bricks 112 [(2, 63), (0, x1), (0, x2), (0, x3), (0, (j : Int))] [] (qS v) = qG L xs d CX12_bricks 139 [(2, 63), (0, x1), (0, x2), (0, x3), (0, 36)] [] (qS (pm_cp v 79 80 j (j + n)))
  | 0, j, v, hj => by
    rw [b_X12_bricks_112, if_neg (by omega), show (j : Int) = 36 by omega, pm_cp_0]
  | n + 1, j, v, hj => by
    rw [b_X12_bricks_112, if_pos (by omega), b_X12_bricks_119, if_pos (by omega), b_X12_bricks_132, if_pos (by omega), b_X12_bricks_133, w32_id (by omega) (by omega)]
    have h3 := lp_left x1 x2 x3 n (j + 1) (pm_up v 80 (j : Int).toNat (v 79 (j : Int).toNat)) (by omega)
    rw [show ((j + 1 : Nat) : Int) = (j : Int) + 1 by omega, pm_cp_step (by decide)] at h3
    exact h3
theorem lp_mring3 (hz : ∀ i, i < 36 → v 80 i = 0) (a b : Int) (h1 : 0 ≤ a ∧ a < 6) (h2 : 0 ≤ b ∧ b < 6) : ∀ (n j : Nat) (u4 u5 u6 : pm_V), j + n = 6 → ∃ w4 w5 w6, qG L xs d CX12_clears 18 [(2, 63), (0, a), (0, b), (0, (j : Int)), u4, u5, u6, (9, 0)] [] (qS v) = qG L xs d CX12_clears 166 [(2, 63), (0, a), (0, b), (0, 6), w4, w5, w6, (9, 0)] [] (qS v)
  | 0, j, u4, u5, u6, hj => by
    refine ⟨u4, u5, u6, ?_⟩
    rw [b_X12_clears_18, if_neg (by omega), show (j : Int) = 6 by omega]
  | n + 1, j, u4, u5, u6, hj => by
    obtain ⟨w4, w5, w6, h3⟩ := lp_mring3 hz a b h1 h2 n (j + 1) (0, 0) (0, 0) (0, 0) (by omega)
    refine ⟨w4, w5, w6, ?_⟩
    rw [b_X12_clears_18, if_pos (by omega)]
    simp (disch := omega) only [b_X12_clears_24, b_X12_clears_35, b_X12_clears_48, b_X12_clears_61, w32_id, if_pos, hz, Int.lt_irrefl, ↓reduceIte]
    rw [b_X12_clears_160, w32_id (by omega) (by omega)]
    rw [show ((j + 1 : Nat) : Int) = (j : Int) + 1 by omega] at h3
    exact h3
theorem lp_mring2 (hz : ∀ i, i < 36 → v 80 i = 0) (a : Int) (h1 : 0 ≤ a ∧ a < 6) : ∀ (n j : Nat) (u3 u4 u5 u6 : pm_V), j + n = 6 → ∃ w3 w4 w5 w6, qG L xs d CX12_clears 10 [(2, 63), (0, a), (0, (j : Int)), u3, u4, u5, u6, (9, 0)] [] (qS v) = qG L xs d CX12_clears 172 [(2, 63), (0, a), (0, 6), w3, w4, w5, w6, (9, 0)] [] (qS v)
  | 0, j, u3, u4, u5, u6, hj => by
    refine ⟨u3, u4, u5, u6, ?_⟩
    rw [b_X12_clears_10, if_neg (by omega), show (j : Int) = 6 by omega]
  | n + 1, j, u3, u4, u5, u6, hj => by
    obtain ⟨z4, z5, z6, h4⟩ := lp_mring3 (L := L) (xs := xs) (d := d) hz a j h1 (by omega) 6 0 u4 u5 u6 (by omega)
    obtain ⟨w3, w4, w5, w6, h3⟩ := lp_mring2 hz a h1 n (j + 1) (0, 6) z4 z5 z6 (by omega)
    refine ⟨w3, w4, w5, w6, ?_⟩
    rw [b_X12_clears_10, if_pos (by omega), b_X12_clears_16]
    refine Eq.trans h4 ?_
    rw [b_X12_clears_166, w32_id (by omega) (by omega)]
    rw [show ((j + 1 : Nat) : Int) = (j : Int) + 1 by omega] at h3
    exact h3
theorem lp_mring1 (hz : ∀ i, i < 36 → v 80 i = 0) : ∀ (n j : Nat) (u2 u3 u4 u5 u6 : pm_V), j + n = 6 → qG L xs d CX12_clears 2 [(2, 63), (0, (j : Int)), u2, u3, u4, u5, u6, (9, 0)] [] (qS v) = some (some (0, 0), qS v)
  | 0, j, u2, u3, u4, u5, u6, hj => by
    rw [b_X12_clears_2, if_neg (by omega), b_X12_clears_178]
  | n + 1, j, u2, u3, u4, u5, u6, hj => by
    obtain ⟨z3, z4, z5, z6, h4⟩ := lp_mring2 (L := L) (xs := xs) (d := d) hz j (by omega) 6 0 u3 u4 u5 u6 (by omega)
    rw [b_X12_clears_2, if_pos (by omega), b_X12_clears_8]
    refine Eq.trans h4 ?_
    rw [b_X12_clears_172, w32_id (by omega) (by omega)]
    have h3 := lp_mring1 hz n (j + 1) (0, 6) z3 z4 z5 z6 (by omega)
    rw [show ((j + 1 : Nat) : Int) = (j : Int) + 1 by omega] at h3
    exact h3
theorem md_clears (hz : ∀ i, i < 36 → v 80 i = 0) : qE L xs (d + 1) nX12_clears [(2, 63)] (qS v) = some (some (0, 0), qS v) := by
  rw [e_X12_clears, b_X12_clears_0]
  exact lp_mring1 hz 6 0 _ _ _ _ _ (by omega)
theorem lp_mowes (hz : ∀ i, i < 36 → v 79 i = 0) (a x2 : Int) (h1 : 0 ≤ a ∧ a < 6) : ∀ (n j : Nat), j + n = 6 → qG L xs d CX12_bricks 19 [(2, 63), (0, a), (0, x2), (0, 0), (0, (j : Int))] [] (qS v) = some (some (0, 0), qS v)
  | 0, j, hj => by
    rw [b_X12_bricks_19, if_neg (by omega), b_X12_bricks_60]
  | n + 1, j, hj => by
    rw [b_X12_bricks_19, if_pos (by omega)]
    simp (disch := omega) only [b_X12_bricks_26, b_X12_bricks_39, w32_id, if_pos, hz]
    rw [b_X12_bricks_51, show w32 (0 + w32 (0 - 0)) = 0 from rfl, w32_id (by omega) (by omega)]
    have h3 := lp_mowes hz a x2 h1 n (j + 1) (by omega)
    rw [show ((j + 1 : Nat) : Int) = (j : Int) + 1 by omega] at h3
    exact h3
theorem op_22 (h : Fresh v) (y k : Int) (hy : y < 2147483648) : pOK 6 xs v nX11_bricks nX12_bricks 0 [(0, y), (0, k)] := by
  refine pok (r := if k = 0 then (if 0 ≤ y ∧ y < 6 then 0 else -2000000000) else if (k = 1 ∨ k = 2) ∧ (0 ≤ y ∧ y / 10 < 6 ∧ y % 10 < 6 ∧ y / 10 ≠ y % 10) then 0 else -2000000000) ?_ (fun v h => ?_)
  · have hz : ∀ i, i < 36 → v 42 i = 0 := fun i hi => f_42_0_r h i (by omega) hi
    by_cases hk : k = 0
    · rw [if_pos hk]
      subst hk
      by_cases h1 : 0 ≤ y ∧ y < 6
      · rw [if_pos h1]
        have e := lp_owed (L := 6) (xs := xs) (d := 996) hz y h1 6 0 (by omega)
        exact ⟨v, M0_of h, by simp (disch := omega) only [e_X11_bricks, b_X11_bricks_0, b_X11_bricks_4, b_X11_bricks_8, b_X11_bricks_11, b_X11_bricks_19, b_X11_bricks_22, b_X11_bricks_24, b_X11_bricks_25, b_X11_bricks_29, b_X11_bricks_32, b_X11_bricks_37, b_X11_bricks_42, b_X11_bricks_45, b_X11_bricks_50, b_X11_bricks_65, b_X11_bricks_68, b_X11_bricks_83, e_X2_owed_41, b_X2_owed_41_0, cd_hasOwner, zb_0, if_pos h1, show qG 6 xs 998 CX2_owed 4 [(2, 41), (0, y), (0, 0), (0, 0)] [] (qS v) = some (some (0, 0), qS v) from e, qB_some, psh_some, psh_none, and_true, true_and, and_false, false_and, and_self, or_true, true_or, or_false, false_or, not_true_eq_false, not_false_eq_true, ↓reduceIte, Int.reduceEq, Int.reduceLT, Int.reduceLE, Int.reduceToNat, Nat.reduceEqDiff, Nat.reduceAdd]⟩
      · rw [if_neg h1]
        exact ⟨v, M0_of h, by simp (disch := omega) only [e_X11_bricks, b_X11_bricks_0, b_X11_bricks_4, b_X11_bricks_8, b_X11_bricks_11, b_X11_bricks_19, b_X11_bricks_22, b_X11_bricks_24, b_X11_bricks_25, b_X11_bricks_29, b_X11_bricks_32, b_X11_bricks_37, b_X11_bricks_42, b_X11_bricks_45, b_X11_bricks_50, b_X11_bricks_65, b_X11_bricks_68, b_X11_bricks_83, cd_hasOwner, zb_0, if_neg h1, qB_some, psh_some, psh_none, and_true, true_and, and_false, false_and, and_self, or_true, true_or, or_false, false_or, not_true_eq_false, not_false_eq_true, ↓reduceIte, Int.reduceEq, Int.reduceLT, Int.reduceLE, Int.reduceToNat, Nat.reduceEqDiff, Nat.reduceAdd]⟩
    · rw [if_neg hk]
      by_cases h1 : 0 ≤ y ∧ y / 10 < 6 ∧ y % 10 < 6 ∧ y / 10 ≠ y % 10
      · by_cases h2 : k = 1
        · subst h2
          rw [if_pos ⟨Or.inl rfl, h1⟩]
          have e := cd_lent (L := 6) (xs := xs) (d := 997) (v := v) (y / 10) (y % 10) (by omega) (by omega)
          rw [hz _ (by omega)] at e
          exact ⟨v, M0_of h, by simp (disch := omega) only [e_X11_bricks, b_X11_bricks_0, b_X11_bricks_4, b_X11_bricks_8, b_X11_bricks_11, b_X11_bricks_19, b_X11_bricks_22, b_X11_bricks_24, b_X11_bricks_25, b_X11_bricks_29, b_X11_bricks_32, b_X11_bricks_37, b_X11_bricks_42, b_X11_bricks_45, b_X11_bricks_50, b_X11_bricks_65, b_X11_bricks_68, b_X11_bricks_83, cd_areOwners, zb_0, if_pos h1, if_neg, td_pos, tm_pos, w32_id, e, qB_some, psh_some, psh_none, and_true, true_and, and_false, false_and, and_self, or_true, true_or, or_false, false_or, not_true_eq_false, not_false_eq_true, ↓reduceIte, Int.reduceEq, Int.reduceLT, Int.reduceLE, Int.reduceToNat, Nat.reduceEqDiff, Nat.reduceAdd]⟩
        · by_cases h3 : k = 2
          · subst h3
            rw [if_pos ⟨Or.inr rfl, h1⟩]
            have e := cd_cleared (L := 6) (xs := xs) (d := 996) hz (y / 10) (y % 10) (by omega) (by omega)
            refine ⟨_, ?_, by simp (disch := omega) only [e_X11_bricks, b_X11_bricks_0, b_X11_bricks_4, b_X11_bricks_8, b_X11_bricks_11, b_X11_bricks_19, b_X11_bricks_22, b_X11_bricks_24, b_X11_bricks_25, b_X11_bricks_29, b_X11_bricks_32, b_X11_bricks_37, b_X11_bricks_42, b_X11_bricks_45, b_X11_bricks_50, b_X11_bricks_65, b_X11_bricks_68, b_X11_bricks_83, cd_areOwners, zb_0, if_pos h1, if_neg, td_pos, tm_pos, w32_id, e, qB_some, psh_some, psh_none, and_true, true_and, and_false, false_and, and_self, or_true, true_or, or_false, false_or, not_true_eq_false, not_false_eq_true, ↓reduceIte, Int.reduceEq, Int.reduceLT, Int.reduceLE, Int.reduceToNat, Nat.reduceEqDiff, Nat.reduceAdd]; rfl⟩
            exact M0_cpy (M0_of h) (by decide)
          · rw [if_neg (by omega)]
            by_cases h4 : k < 1
            · exact ⟨v, M0_of h, by simp (disch := omega) only [e_X11_bricks, b_X11_bricks_0, b_X11_bricks_4, b_X11_bricks_8, b_X11_bricks_11, b_X11_bricks_19, b_X11_bricks_22, b_X11_bricks_24, b_X11_bricks_25, b_X11_bricks_29, b_X11_bricks_32, b_X11_bricks_37, b_X11_bricks_42, b_X11_bricks_45, b_X11_bricks_50, b_X11_bricks_65, b_X11_bricks_68, b_X11_bricks_83, cd_areOwners, zb_0, if_pos h1, if_neg hk, if_pos, if_neg, qB_some, psh_some, psh_none, and_true, true_and, and_false, false_and, and_self, or_true, true_or, or_false, false_or, not_true_eq_false, not_false_eq_true, ↓reduceIte, Int.reduceEq, Int.reduceLT, Int.reduceLE, Int.reduceToNat, Nat.reduceEqDiff, Nat.reduceAdd]⟩
            · exact ⟨v, M0_of h, by simp (disch := omega) only [e_X11_bricks, b_X11_bricks_0, b_X11_bricks_4, b_X11_bricks_8, b_X11_bricks_11, b_X11_bricks_19, b_X11_bricks_22, b_X11_bricks_24, b_X11_bricks_25, b_X11_bricks_29, b_X11_bricks_32, b_X11_bricks_37, b_X11_bricks_42, b_X11_bricks_45, b_X11_bricks_50, b_X11_bricks_65, b_X11_bricks_68, b_X11_bricks_83, cd_areOwners, zb_0, if_pos h1, if_neg hk, if_pos, if_neg, qB_some, psh_some, psh_none, and_true, true_and, and_false, false_and, and_self, or_true, true_or, or_false, false_or, not_true_eq_false, not_false_eq_true, ↓reduceIte, Int.reduceEq, Int.reduceLT, Int.reduceLE, Int.reduceToNat, Nat.reduceEqDiff, Nat.reduceAdd]⟩
      · rw [if_neg (fun q => h1 q.2)]
        exact ⟨v, M0_of h, by simp (disch := omega) only [e_X11_bricks, b_X11_bricks_0, b_X11_bricks_4, b_X11_bricks_8, b_X11_bricks_11, b_X11_bricks_19, b_X11_bricks_22, b_X11_bricks_24, b_X11_bricks_25, b_X11_bricks_29, b_X11_bricks_32, b_X11_bricks_37, b_X11_bricks_42, b_X11_bricks_45, b_X11_bricks_50, b_X11_bricks_65, b_X11_bricks_68, b_X11_bricks_83, cd_areOwners, zb_0, if_neg h1, if_neg hk, qB_some, psh_some, psh_none, and_true, true_and, and_false, false_and, and_self, or_true, true_or, or_false, false_or, not_true_eq_false, not_false_eq_true, ↓reduceIte, Int.reduceEq, Int.reduceLT, Int.reduceLE, Int.reduceToNat, Nat.reduceEqDiff, Nat.reduceAdd]⟩
  · have hz : ∀ i, i < 36 → v 79 i = 0 := fun i hi => g_79_0_r h i (by omega) hi
    by_cases hk : k = 0
    · rw [if_pos hk]
      subst hk
      by_cases h1 : 0 ≤ y ∧ y < 6
      · rw [if_pos h1]
        have e := lp_mowes (L := 6) (xs := xs) (d := 999) hz y 0 h1 6 0 (by omega)
        exact ⟨v, by simp (disch := omega) only [e_X12_bricks, b_X12_bricks_0, b_X12_bricks_4, b_X12_bricks_8, b_X12_bricks_14, md_isOwner, zb_0, if_pos h1, show qG 6 xs 999 CX12_bricks 19 [(2, 63), (0, y), (0, 0), (0, 0), (0, 0)] [] (qS v) = some (some (0, 0), qS v) from e, qB_some, psh_some, psh_none, and_true, true_and, and_false, false_and, and_self, or_true, true_or, or_false, false_or, not_true_eq_false, not_false_eq_true, ↓reduceIte, Int.reduceEq, Int.reduceLT, Int.reduceLE, Int.reduceToNat, Nat.reduceEqDiff, Nat.reduceAdd]⟩
      · rw [if_neg h1]
        exact ⟨v, by simp (disch := omega) only [e_X12_bricks, b_X12_bricks_0, b_X12_bricks_4, b_X12_bricks_8, b_X12_bricks_11, md_isOwner, zb_0, if_neg h1, qB_some, psh_some, psh_none, and_true, true_and, and_false, false_and, and_self, or_true, true_or, or_false, false_or, not_true_eq_false, not_false_eq_true, ↓reduceIte, Int.reduceEq, Int.reduceLT, Int.reduceLE, Int.reduceToNat, Nat.reduceEqDiff, Nat.reduceAdd]⟩
    · rw [if_neg hk]
      by_cases h5 : k = 1 ∨ k = 2
      · by_cases h1 : 0 ≤ y ∧ y / 10 < 6 ∧ y % 10 < 6 ∧ y / 10 ≠ y % 10
        · rw [if_pos ⟨h5, h1⟩]
          rcases h5 with rfl | rfl
          · exact ⟨v, by simp (disch := omega) only [e_X12_bricks, b_X12_bricks_0, b_X12_bricks_62, b_X12_bricks_71, b_X12_bricks_74, b_X12_bricks_78, b_X12_bricks_84, b_X12_bricks_102, b_X12_bricks_108, c_within, md_areOwners, zb_0, if_pos h1, if_pos, td_pos, tm_pos, w32_id, hz, qB_some, psh_some, psh_none, and_true, true_and, and_false, false_and, and_self, or_true, true_or, or_false, false_or, not_true_eq_false, not_false_eq_true, ↓reduceIte, Int.reduceEq, Int.reduceLT, Int.reduceLE, Int.reduceToNat, Nat.reduceEqDiff, Nat.reduceAdd]⟩
          · have e := lp_left (L := 6) (xs := xs) (d := 999) y 2 (6 * (y / 10) + y % 10) 36 0 v (by omega)
            have hz' : ∀ i, i < 36 → pm_cp v 79 80 0 36 80 i = 0 := fun i hi => (if_pos (by omega)).trans (hz _ hi)
            have e' : qG 6 xs 999 CX12_bricks 112 [(2, 63), (0, y), (0, 2), (0, 6 * (y / 10) + y % 10), (0, 0)] [] (qS v) = some (some (0, 0), qS (pm_cp v 79 80 0 36)) := by
              refine Eq.trans e ?_
              show qG 6 xs 999 CX12_bricks 139 _ _ (qS (pm_cp v 79 80 0 36)) = _
              rw [b_X12_bricks_139, b_X12_bricks_142, if_neg (by omega), b_X12_bricks_147, md_clears hz', qB_some, psh_some, b_X12_bricks_151, b_X12_bricks_142, if_pos rfl, b_X12_bricks_156, if_pos (by omega), hz' _ (by omega), b_X12_bricks_162]
            exact ⟨_, by simp (disch := omega) only [e_X12_bricks, b_X12_bricks_0, b_X12_bricks_62, b_X12_bricks_71, b_X12_bricks_74, b_X12_bricks_78, b_X12_bricks_84, b_X12_bricks_109, c_within, md_areOwners, zb_0, if_pos h1, if_pos, if_neg, td_pos, tm_pos, w32_id, e', qB_some, psh_some, psh_none, and_true, true_and, and_false, false_and, and_self, or_true, true_or, or_false, false_or, not_true_eq_false, not_false_eq_true, ↓reduceIte, Int.reduceEq, Int.reduceLT, Int.reduceLE, Int.reduceToNat, Nat.reduceEqDiff, Nat.reduceAdd]; rfl⟩
        · rw [if_neg (fun q => h1 q.2)]
          exact ⟨v, by simp (disch := omega) only [e_X12_bricks, b_X12_bricks_0, b_X12_bricks_62, b_X12_bricks_71, b_X12_bricks_74, b_X12_bricks_78, b_X12_bricks_81, c_within, md_areOwners, zb_0, if_neg hk, if_neg h1, if_pos, qB_some, psh_some, psh_none, and_true, true_and, and_false, false_and, and_self, or_true, true_or, or_false, false_or, not_true_eq_false, not_false_eq_true, ↓reduceIte, Int.reduceEq, Int.reduceLT, Int.reduceLE, Int.reduceToNat, Nat.reduceEqDiff, Nat.reduceAdd]⟩
      · rw [if_neg (fun q => h5 q.1)]
        exact ⟨v, by simp (disch := omega) only [e_X12_bricks, b_X12_bricks_0, b_X12_bricks_62, b_X12_bricks_71, b_X12_bricks_81, c_within, zb_0, if_neg hk, if_neg, qB_some, psh_some, psh_none, and_true, true_and, and_false, false_and, and_self, or_true, true_or, or_false, false_or, not_true_eq_false, not_false_eq_true, ↓reduceIte, Int.reduceEq, Int.reduceLT, Int.reduceLE, Int.reduceToNat, Nat.reduceEqDiff, Nat.reduceAdd]⟩
end OD
