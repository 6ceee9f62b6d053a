/-! mend, undo, redo keep the relation -/
section OI3
variable {L : Nat} {xs : Nat → Int} {d : Nat} {u v w : Nat → Nat → Int} {k n : Nat}
theorem cr_allows_out {a z : Int} (h : ¬ (0 ≤ a ∧ a < 12)) : qE L xs (d + 1) nX9_allows [(0, a), (0, z)] (qS v) = some (some (0, 0), qS v) := by
  rw [e_X9_allows, b_X9_allows_0]
  by_cases g : a < 0
  · rw [if_pos g, b_X9_allows_34, b_X9_allows_35, if_pos (by omega)]
  · rw [if_neg g, b_X9_allows_4, if_neg (by omega), b_X9_allows_34, b_X9_allows_35, if_pos (by omega)]
/-- both change alike, one after the other -/
theorem ch_both (h : rlR v) (hk : k < 12) (hn : n < cn k) (hl : (n : Int) < hmN v k) (z : Int) (hz : lo k ≤ z ∧ z ≤ hi k) : rlR (chM (chC v k n z) (atM k n) z) := by
  have hM := atM_lt hk hn
  have h30 := cn_30 hk hn
  have o : ∀ c j, 63 ≤ c → chC v k n z c j = v c j := fun c j q => chC_ne z (by omega) (by omega) (by omega)
  have a := rR_ch (u := v) (v := chC v k n z) (k := k) (n := n) (by rw [mx_out o]; exact h) hk hn hl z hz
  rw [mx_in (fun c j q => chM_ne z (by omega) (by omega) (by omega))] at a
  exact a
theorem opr_mend (h : rlR v) (n a z : Int) : opR L xs v nX11_mend nX12_mend 0 [(0, n), (0, a), (0, z)] := by
  obtain ⟨p1, p2, p3, p4, p5, p6, p7, p8⟩ := h.1
  obtain ⟨c1, c2, c3⟩ := h.2.1
  by_cases g : (0 ≤ a ∧ a < 12) ∧ 0 ≤ n ∧ n < hm v a
  · obtain ⟨k, rfl⟩ : ∃ k : Nat, a = (k : Int) := ⟨a.toNat, by omega⟩
    obtain ⟨m, rfl⟩ : ∃ m : Nat, n = (m : Int) := ⟨n.toNat, by omega⟩
    have hk : k < 12 := by omega
    have hl : (m : Int) < hmN v k := by rw [← hm_N hk]; exact g.2.2
    have hn := hm_cn p1.2 p2.2 hk hl
    have h30 := cn_30 hk hn
    have hM := atM_lt hk hn
    by_cases g2 : lo k ≤ z ∧ z ≤ hi k
    · have o : ∀ c j, 63 ≤ c → chC v k m z c j = v c j := fun c j q => chC_ne z (by omega) (by omega) (by omega)
      refine ⟨v (3 + k) m, chC v k m z, chM (chC v k m z) (atM k m) z, ?_, ?_, ch_both h hk hn hl z g2⟩
      · rw [e_X11_mend, b_X11_mend_0, c_has, qB_some, psh_some, b_X11_mend_9, zb_0, if_pos g.2, b_X11_mend_12, cr_allows hk, qB_some, psh_some, b_X11_mend_17, zb_0, if_pos g2, b_X11_mend_23, c_value_in k m (by omega) (by omega) (by omega) g.2.2 (by omega), qB_some, psh_some, b_X11_mend_32, cr_change hk h30 hl (by omega), qB_some, psh_none, b_X11_mend_41, Int.toNat_natCast, Int.toNat_natCast]
      · have e1 : chC v k m z 1 1 = v 1 1 := chC_ne z (by omega) (by omega) (by omega)
        have e2 : chC v k m z 1 2 = v 1 2 := chC_ne z (by omega) (by omega) (by omega)
        have hl' : (m : Int) < hmN (chC v k m z) k := by
          unfold hmN at hl ⊢
          rw [e1, e2]
          exact hl
        rw [e_X12_mend, b_X12_mend_0, m_placeOf_in (by rw [o _ _ (by omega), e1]; exact p4.1) (by rw [o _ _ (by omega), e2]; exact p4.2) (by rw [e1]; exact p1.2) (by rw [e2]; exact p2.2) hk hl', qB_some, psh_some, b_X12_mend_6, if_neg (by omega), b_X12_mend_13, mr_may hk, qB_some, psh_some, b_X12_mend_19, zb_0, if_pos g2, b_X12_mend_22, mr_becomes (by rw [o _ _ (by omega)]; omega) hM, qB_some, psh_some, b_X12_mend_29, b_X12_mend_34, o _ _ (by omega), p5 k m hk hn hl]
    · refine opR_no (r := -2000000000) h ?_ ?_
      · rw [e_X11_mend, b_X11_mend_0, c_has, qB_some, psh_some, b_X11_mend_9, zb_0, if_pos g.2, b_X11_mend_12, cr_allows hk, qB_some, psh_some, b_X11_mend_17, zb_0, if_neg g2, b_X11_mend_20]
      · rw [e_X12_mend, b_X12_mend_0, m_placeOf_in p4.1 p4.2 p1.2 p2.2 hk hl, qB_some, psh_some, b_X12_mend_6, if_neg (by omega), b_X12_mend_13, mr_may hk, qB_some, psh_some, b_X12_mend_19, zb_0, if_neg g2, b_X12_mend_32, b_X12_mend_34]
  · refine opR_no (r := -2000000000) h ?_ ?_
    · rw [e_X11_mend, b_X11_mend_0, c_has, qB_some, psh_some, b_X11_mend_9, zb_0]
      by_cases g1 : 0 ≤ n ∧ n < hm v a
      · rw [if_pos g1, b_X11_mend_12, cr_allows_out (by omega), qB_some, psh_some, b_X11_mend_17, if_pos rfl, b_X11_mend_20]
      · rw [if_neg g1, b_X11_mend_20]
    · rw [e_X12_mend, b_X12_mend_0, m_placeOf_out p4.1 p4.2 p1 p2 n a g, qB_some, psh_some, b_X12_mend_6, if_pos (by omega), b_X12_mend_32, b_X12_mend_34]
/-- a number goes back, or forth again -/
theorem rR_go {D S : Nat} {z : Int} (h : rlR v) (h4 : w 18 4 = (D : Int)) (h5 : w 63 5 = (D : Int)) (hS : (D : Int) ≤ v 18 5) (hk : k < 12) (hn : n < cn k) (hl : (n : Int) < hmN v k) (hz : lo k ≤ z ∧ z ≤ hi k) (e1 : w (3 + k) n = z) (e2 : w 64 (atM k n) = z) (hc : ∀ c j, ¬ (c = 18 ∧ j = 4) → ¬ (c = 63 ∧ j = 5) → ¬ (c = 3 + k ∧ j = n) → ¬ (c = 64 ∧ j = atM k n) → w c j = v c j) : rlR w := by
  have hh : hmN w = hmN v := by
    funext k
    unfold hmN
    rw [hc 1 1 (by omega) (by omega) (by omega) (by omega), hc 1 2 (by omega) (by omega) (by omega) (by omega)]
  obtain ⟨c1, c2, c3⟩ := h.2.1
  refine rlR_but h (rW_set (k := k) (n := n) (z := z) h.1 hk hn hl hz e1 e2 (fun c j q z1 z2 => hc c j (by unfold dsW at q; omega) (by unfold dsW at q; omega) z1 z2)) ⟨?_, ?_, fun i hi => ?_⟩ (fun c j q => hc c j (by unfold dsO dsT dsL dsD dsG dsB dsS dsN at q; omega) (by unfold dsO dsT dsL dsD dsG dsB dsS dsN at q; omega) (by unfold dsO dsT dsL dsD dsG dsB dsS dsN at q; omega) (by unfold dsO dsT dsL dsD dsG dsB dsS dsN at q; omega))
  · rw [h4, hc 18 5 (by omega) (by omega) (by omega) (by omega)]
    omega
  · rw [h4, h5, hc 18 5 (by omega) (by omega) (by omega) (by omega), hc 63 4 (by omega) (by omega) (by omega) (by omega)]
    omega
  · rw [hc 18 5 (by omega) (by omega) (by omega) (by omega)] at hi
    rw [hh, hc 19 i (by omega) (by omega) (by omega) (by omega), hc 20 i (by omega) (by omega) (by omega) (by omega), hc 21 i (by omega) (by omega) (by omega) (by omega), hc 22 i (by omega) (by omega) (by omega) (by omega), hc 65 i (by omega) (by omega) (by omega) (by omega), hc 66 i (by omega) (by omega) (by omega) (by omega), hc 67 i (by omega) (by omega) (by omega) (by omega)]
    exact c3 i hi
theorem opr_undo (h : rlR v) : opR L xs v nX11_undo nX12_undo 0 [] := by
  obtain ⟨c1, c2, c3⟩ := h.2.1
  have p := h.1
  by_cases g : v 18 4 = 0
  · refine opR_no (r := -5) h ?_ ?_
    · rw [e_X11_undo, b_X11_undo_0, e_X1_takeBack, b_X1_takeBack_0, if_neg (by omega), b_X1_takeBack_7, qB_some, psh_some, b_X11_undo_11, if_pos rfl, b_X11_undo_24, b_X11_undo_26]
    · rw [e_X12_undo, b_X12_undo_0, if_pos (by omega), b_X12_undo_7]
  · obtain ⟨D, hD⟩ : ∃ D : Nat, v 18 4 = (D : Int) + 1 := ⟨(v 18 4 - 1).toNat, by omega⟩
    obtain ⟨k, n, hk, hn, hl, q1, q2, q3, q4, q5, q6, q7⟩ := c3 D (by omega)
    have h30 := cn_30 hk hn
    have hM := atM_lt hk hn
    have hmx : (n : Int) < hm v k := by rw [hm_N hk]; exact hl
    obtain ⟨w1, hw1⟩ : ∃ w1, w1 = pm_up (pm_up v 18 4 D) (3 + k) n (v 21 D) := ⟨_, rfl⟩
    obtain ⟨w2, hw2⟩ : ∃ w2, w2 = pm_up (pm_up w1 63 5 D) 64 (atM k n) (v 21 D) := ⟨_, rfl⟩
    have hm1 : (n : Int) < hm (pm_up v 18 4 D) k := by
      rw [hm_N hk]
      unfold hmN at hl ⊢
      rw [up_ne (by omega), up_ne (by omega)]
      exact hl
    refine ⟨D, w1, w2, ?_, ?_, rR_go (D := D) (S := D) (k := k) (n := n) (z := v 21 D) h ?_ ?_ (by omega) hk hn hl q6 ?_ ?_ (fun c j z1 z2 z3 z4 => ?_)⟩
    · rw [e_X11_undo, b_X11_undo_0, e_X1_takeBack, b_X1_takeBack_0, if_pos (by omega), b_X1_takeBack_9, hD, w32_id (by omega) (by omega), show (D : Int) + 1 - 1 = D by omega, b_X1_takeBack_19, up_eq, if_pos (by omega), Int.toNat_natCast, up_ne (by omega), b_X1_takeBack_29, up_eq, if_pos (by omega), Int.toNat_natCast, up_ne (by omega), b_X1_takeBack_38, up_eq, if_pos (by omega), Int.toNat_natCast, up_ne (by omega), q1, q2, b_X1_takeBack_47, c_set_in (k : Int) (n : Int) _ (by omega) (by omega) (by omega) hm1 (by omega), qB_some, psh_none, b_X1_takeBack_50, qB_some, psh_some, b_X11_undo_11, if_neg (by decide), b_X11_undo_14, b_X11_undo_26, Int.toNat_natCast, Int.toNat_natCast, ← hw1, hw1, up_ne (by omega), up_eq]
    · have e5 : w1 63 5 = (D : Int) + 1 := by rw [hw1, up_ne (by omega), up_ne (by omega)]; omega
      have e65 : w1 65 D = (atM k n : Int) := by rw [hw1, up_ne (by omega), up_ne (by omega)]; exact q3
      have e66 : w1 66 D = v 21 D := by rw [hw1, up_ne (by omega), up_ne (by omega)]; exact q4
      rw [e_X12_undo, b_X12_undo_0, if_neg (by omega), b_X12_undo_10, e5, w32_id (by omega) (by omega), show (D : Int) + 1 - 1 = D by omega, b_X12_undo_20, up_eq, if_pos (by omega), Int.toNat_natCast, up_ne (by omega), e65, b_X12_undo_33, up_eq, if_pos (by omega), Int.toNat_natCast, up_ne (by omega), e66, b_X12_undo_42, if_pos (by omega), Int.toNat_natCast, ← hw2, b_X12_undo_43, hw2, up_ne (by omega), up_eq]
    · rw [hw2, up_ne (by omega), up_ne (by omega), hw1, up_ne (by omega), up_eq]
    · rw [hw2, up_ne (by omega), up_eq]
    · rw [hw2, up_ne (by omega), up_ne (by omega), hw1, up_eq]
    · rw [hw2, up_eq]
    · rw [hw2, up_ne (by omega), up_ne (by omega), hw1, up_ne (by omega), up_ne (by omega)]
theorem opr_redo (h : rlR v) : opR L xs v nX11_redo nX12_redo 0 [] := by
  obtain ⟨c1, c2, c3⟩ := h.2.1
  by_cases g : v 18 4 = v 18 5
  · refine opR_no (r := -5) h ?_ ?_
    · rw [e_X11_redo, b_X11_redo_0, e_X1_doAgain, b_X1_doAgain_0, if_neg (by omega), b_X1_doAgain_11, qB_some, psh_some, b_X11_redo_11, if_pos rfl, b_X11_redo_32, b_X11_redo_34]
    · rw [e_X12_redo, b_X12_redo_0, if_pos (by omega), b_X12_redo_11]
  · obtain ⟨D, hD⟩ : ∃ D : Nat, v 18 4 = (D : Int) := ⟨(v 18 4).toNat, by omega⟩
    obtain ⟨k, n, hk, hn, hl, q1, q2, q3, q4, q5, q6, q7⟩ := c3 D (by omega)
    have h30 := cn_30 hk hn
    have hM := atM_lt hk hn
    have hmx : (n : Int) < hm v k := by rw [hm_N hk]; exact hl
    obtain ⟨w1, hw1⟩ : ∃ w1, w1 = pm_up (pm_up v (3 + k) n (v 22 D)) 18 4 ((D : Int) + 1) := ⟨_, rfl⟩
    obtain ⟨w2, hw2⟩ : ∃ w2, w2 = pm_up (pm_up w1 64 (atM k n) (v 22 D)) 63 5 ((D : Int) + 1) := ⟨_, rfl⟩
    refine ⟨v 18 5 - ((D : Int) + 1), w1, w2, ?_, ?_, rR_go (D := D + 1) (S := D) (k := k) (n := n) (z := v 22 D) h ?_ ?_ (by omega) hk hn hl q7 ?_ ?_ (fun c j z1 z2 z3 z4 => ?_)⟩
    · rw [e_X11_redo, b_X11_redo_0, e_X1_doAgain, b_X1_doAgain_0, if_pos (by omega), b_X1_doAgain_13, hD, if_pos (by omega), Int.toNat_natCast, b_X1_doAgain_23, hD, if_pos (by omega), Int.toNat_natCast, b_X1_doAgain_32, hD, if_pos (by omega), Int.toNat_natCast, q1, q2, b_X1_doAgain_41, c_set_in (k : Int) (n : Int) _ (by omega) (by omega) (by omega) hmx (by omega), qB_some, psh_none, b_X1_doAgain_44, Int.toNat_natCast, Int.toNat_natCast, up_ne (by omega), hD, w32_id (by omega) (by omega), ← hw1, b_X1_doAgain_54, qB_some, psh_some, b_X11_redo_11, if_neg (by decide), b_X11_redo_14, b_X11_redo_34, hw1, up_ne (by omega), up_ne (by omega), up_eq, w32_id (by omega) (by omega)]
    · have e5 : w1 63 5 = (D : Int) := by rw [hw1, up_ne (by omega), up_ne (by omega)]; omega
      have e4 : w1 63 4 = v 18 5 := by rw [hw1, up_ne (by omega), up_ne (by omega)]; omega
      have e65 : w1 65 D = (atM k n : Int) := by rw [hw1, up_ne (by omega), up_ne (by omega)]; exact q3
      have e67 : w1 67 D = v 22 D := by rw [hw1, up_ne (by omega), up_ne (by omega)]; exact q5
      rw [e_X12_redo, b_X12_redo_0, if_neg (by omega), b_X12_redo_14, e5, if_pos (by omega), Int.toNat_natCast, e65, b_X12_redo_27, e5, if_pos (by omega), Int.toNat_natCast, e67, b_X12_redo_36, if_pos (by omega), Int.toNat_natCast, b_X12_redo_37, up_ne (by omega), e5, w32_id (by omega) (by omega), ← hw2, b_X12_redo_47, hw2, up_ne (by omega), up_ne (by omega), up_eq, e4, w32_id (by omega) (by omega)]
    · rw [hw2, up_ne (by omega), up_ne (by omega), hw1, up_eq]; omega
    · rw [hw2, up_eq]; omega
    · rw [hw2, up_ne (by omega), up_ne (by omega), hw1, up_ne (by omega), up_eq]
    · rw [hw2, up_ne (by omega), up_eq]
    · rw [hw2, up_ne (by omega), up_ne (by omega), hw1, up_ne (by omega), up_ne (by omega)]
end OI3
