/-! CALLS that keep the relation: of, led, count, trace, digs, turn, feed, lend (written by wip/p1/84.opsb.py) -/
section OB2
variable {L : Nat} {xs : Nat → Int} {d : Nat} {v w : Nat → Nat → Int} {k n : Nat}
theorem rlR_or (h : rlR v) (hW : rlW w ∨ ∀ c j, dsW c j → w c j = v c j) (hC : rlC w ∨ ∀ c j, dsC c j → w c j = v c j) (hT : rlT w ∨ ∀ c j, dsT c j → w c j = v c j) (hL : rlL w ∨ ∀ c j, dsL c j → w c j = v c j) (hD : rlD w ∨ ∀ c j, dsD c j → w c j = v c j) (hG : rlG w ∨ ∀ c j, dsG c j → w c j = v c j) (hB : rlB w ∨ ∀ c j, dsB c j → w c j = v c j) (hS : rlS w ∨ ∀ c j, dsS c j → w c j = v c j) (hN : rlN w ∨ ∀ c j, dsN c j → w c j = v c j) : rlR w := by
  obtain ⟨h1, h2, h3, h4, h5, h6, h7, h8, h9⟩ := h
  refine ⟨?_, ?_, ?_, ?_, ?_, ?_, ?_, ?_, ?_⟩
  · rcases hW with q | q
    · exact q
    · exact rlW_cg q h1
  · rcases hC with q | q
    · exact q
    · exact rlC_cg q h2
  · rcases hT with q | q
    · exact q
    · exact rlT_cg q h3
  · rcases hL with q | q
    · exact q
    · exact rlL_cg q h3 h4
  · rcases hD with q | q
    · exact q
    · exact rlD_cg q h5
  · rcases hG with q | q
    · exact q
    · exact rlG_cg q h6
  · rcases hB with q | q
    · exact q
    · exact rlB_cg q h7
  · rcases hS with q | q
    · exact q
    · exact rlS_cg q h8
  · rcases hN with q | q
    · exact q
    · exact rlN_cg q h9
theorem rG_set (h : rlG v) (e0 : w 63 32 = w 47 0) (e1 : w 63 33 = w 47 1) (e2 : w 63 34 = w 47 2) (e3 : w 63 35 = w 47 3) (hp : 0 ≤ w 47 0 ∧ w 47 0 < 60) (hc : ∀ c j, dsG c j → ¬ (c = 47) → ¬ (c = 63 ∧ j < 36) → w c j = v c j) : rlG w := by
  unfold dsG at hc
  obtain ⟨p1, p2, p3, p4, p5⟩ := h
  refine ⟨⟨e0, e1, e2, e3⟩, hp, ?_, ?_, ?_⟩
  · rw [hc 0 11 (by omega) (by omega) (by omega), hc 48 0 (by omega) (by omega) (by omega), hc 48 1 (by omega) (by omega) (by omega), hc 48 2 (by omega) (by omega) (by omega), hc 48 3 (by omega) (by omega) (by omega), hc 83 0 (by omega) (by omega) (by omega), hc 83 1 (by omega) (by omega) (by omega), hc 83 2 (by omega) (by omega) (by omega), hc 83 3 (by omega) (by omega) (by omega)]
    exact p3
  · rw [hc 0 11 (by omega) (by omega) (by omega), hc 63 36 (by omega) (by omega) (by omega)]
    exact p4
  · rw [hc 0 11 (by omega) (by omega) (by omega)]
    exact p5
theorem opr_of (h : rlR v) (n a : Int) : opR L xs v nX11_of nX12_of 0 [(0, n), (0, a)] := by
  obtain ⟨p1, p2, p3, p4, p5, p6, p7, p8⟩ := h.1
  by_cases g : (0 ≤ a ∧ a < 12) ∧ 0 ≤ n ∧ n < hm v a
  · obtain ⟨k, rfl⟩ : ∃ k : Nat, a = (k : Int) := ⟨a.toNat, by omega⟩
    obtain ⟨m, rfl⟩ : ∃ m : Nat, n = (m : Int) := ⟨n.toNat, by omega⟩
    have hk : k < 12 := by omega
    have hl : (m : Int) < hmN v k := by rw [← hm_N hk]; exact g.2.2
    have hn := hm_cn p1.2 p2.2 hk hl
    have h30 := cn_30 hk hn
    have hM := atM_lt hk hn
    refine opR_no (r := v (3 + k) m) h ?_ ?_
    · rw [e_X11_of, b_X11_of_0, c_has, qB_some, psh_some, b_X11_of_9, zb_0, if_pos g.2, b_X11_of_12, c_value_in k m (by omega) (by omega) (by omega) g.2.2 (by omega), qB_some, psh_some, b_X11_of_21, b_X11_of_26, Int.toNat_natCast, Int.toNat_natCast]
    · rw [e_X12_of, b_X12_of_0, m_placeOf_in p4.1 p4.2 p1.2 p2.2 hk hl, qB_some, psh_some, b_X12_of_6, if_neg (by omega), b_X12_of_11, if_pos (by omega), Int.toNat_natCast, b_X12_of_17, p5 k m hk hn hl]
  · have po := m_placeOf_out (L := L) (xs := xs) (d := 997) p4.1 p4.2 p1 p2 n a g
    have mo : qE L xs 1000 nX12_of [(2, 63), (0, n), (0, a)] (qS v) = qG L xs 999 CX12_of 18 [(2, 63), (0, n), (0, a), (0, -1)] [] (qS v) := by
      rw [e_X12_of, b_X12_of_0, po, qB_some, psh_some, b_X12_of_6, if_pos (by omega)]
    by_cases h12 : a = 12 ∨ a = 13 ∨ a = 14
    · by_cases hn : 0 ≤ n ∧ n < hm v a
      · obtain ⟨m, rfl⟩ : ∃ m : Nat, n = (m : Int) := ⟨n.toNat, by omega⟩
        rcases h12 with rfl | rfl | rfl
        · have q : (m : Int) < v 1 1 := hn.2
          refine opR_no (r := v 15 m) h ?_ ?_
          · rw [e_X11_of, b_X11_of_0, c_has, qB_some, psh_some, b_X11_of_9, zb_0, if_pos hn, b_X11_of_12, c_value_in 12 m (by omega) (by omega) (by omega) hn.2 (by omega), qB_some, psh_some, b_X11_of_21, b_X11_of_26]
            rfl
          · rw [mo, b_X12_of_18, if_pos rfl, b_X12_of_24, c_within, qB_some, psh_some, b_X12_of_37, zb_0, w32_id (by omega) (by omega), if_pos (by omega), b_X12_of_40, if_pos (by omega), Int.toNat_natCast, b_X12_of_46, b_X12_of_51, (p6 m q).1]
        · have q : (m : Int) < v 1 2 := hn.2
          refine opR_no (r := v 16 m) h ?_ ?_
          · rw [e_X11_of, b_X11_of_0, c_has, qB_some, psh_some, b_X11_of_9, zb_0, if_pos hn, b_X11_of_12, c_value_in 13 m (by omega) (by omega) (by omega) hn.2 (by omega), qB_some, psh_some, b_X11_of_21, b_X11_of_26]
            rfl
          · rw [mo, b_X12_of_18, if_neg (by decide), b_X12_of_52, c_within, qB_some, psh_some, b_X12_of_63, zb_0, if_pos (by decide), b_X12_of_66, c_within, qB_some, psh_some, b_X12_of_79, zb_0, w32_id (by omega) (by omega), if_pos (by omega), b_X12_of_82, if_pos rfl, b_X12_of_88, if_pos (by omega), Int.toNat_natCast, b_X12_of_94, b_X12_of_108, (p7 m q).1]
        · have q : (m : Int) < v 1 2 := hn.2
          refine opR_no (r := v 17 m) h ?_ ?_
          · rw [e_X11_of, b_X11_of_0, c_has, qB_some, psh_some, b_X11_of_9, zb_0, if_pos hn, b_X11_of_12, c_value_in 14 m (by omega) (by omega) (by omega) hn.2 (by omega), qB_some, psh_some, b_X11_of_21, b_X11_of_26]
            rfl
          · rw [mo, b_X12_of_18, if_neg (by decide), b_X12_of_52, c_within, qB_some, psh_some, b_X12_of_63, zb_0, if_pos (by decide), b_X12_of_66, c_within, qB_some, psh_some, b_X12_of_79, zb_0, w32_id (by omega) (by omega), if_pos (by omega), b_X12_of_82, if_neg (by decide), b_X12_of_97, if_pos (by omega), Int.toNat_natCast, b_X12_of_103, b_X12_of_108, (p7 m q).2.1]
      · refine opR_no (r := -2000000000) h ?_ ?_
        · rw [e_X11_of, b_X11_of_0, c_has, qB_some, psh_some, b_X11_of_9, zb_0, if_neg hn, b_X11_of_24, b_X11_of_26]
        · rcases h12 with rfl | rfl | rfl
          · have q : ¬ (0 ≤ n ∧ n < v 1 1) := hn
            rw [mo, b_X12_of_18, if_pos rfl, b_X12_of_24, c_within, qB_some, psh_some, b_X12_of_37, zb_0, w32_id (by omega) (by omega), if_neg (by omega), b_X12_of_49, b_X12_of_51]
          · have q : ¬ (0 ≤ n ∧ n < v 1 2) := hn
            rw [mo, b_X12_of_18, if_neg (by decide), b_X12_of_52, c_within, qB_some, psh_some, b_X12_of_63, zb_0, if_pos (by decide), b_X12_of_66, c_within, qB_some, psh_some, b_X12_of_79, zb_0, w32_id (by omega) (by omega), if_neg (by omega), b_X12_of_106, b_X12_of_108]
          · have q : ¬ (0 ≤ n ∧ n < v 1 2) := hn
            rw [mo, b_X12_of_18, if_neg (by decide), b_X12_of_52, c_within, qB_some, psh_some, b_X12_of_63, zb_0, if_pos (by decide), b_X12_of_66, c_within, qB_some, psh_some, b_X12_of_79, zb_0, w32_id (by omega) (by omega), if_neg (by omega), b_X12_of_106, b_X12_of_108]
    · have hz : ¬ (0 ≤ n ∧ n < hm v a) := fun q => by
        by_cases ha : 0 ≤ a ∧ a < 12
        · exact g ⟨ha, q⟩
        · have : hm v a = 0 := by
            unfold hm
            rw [if_neg (by omega), if_neg (by omega), if_neg (by omega), if_neg (by omega), if_neg (by omega)]
          omega
      refine opR_no (r := -2000000000) h ?_ ?_
      · rw [e_X11_of, b_X11_of_0, c_has, qB_some, psh_some, b_X11_of_9, zb_0, if_neg hz, b_X11_of_24, b_X11_of_26]
      · rw [mo, b_X12_of_18, if_neg (by omega), b_X12_of_52, c_within, qB_some, psh_some, b_X12_of_63, zb_0, if_neg (by omega), b_X12_of_106, b_X12_of_108]
theorem opr_led (h : rlR v) (a : Int) : opR L xs v nX11_led nX12_led 0 [(0, a)] := by
  obtain ⟨⟨e0, e1, e2, e3⟩, -⟩ := h.2.2.2.2.2.1
  by_cases h1 : a = 0 ∨ a = 1 ∨ a = 2 ∨ a = 3
  · rcases h1 with rfl | rfl | rfl | rfl
    · exact opR_no (r := v 47 1) h (by simp (disch := omega) only [e_X11_led, b_X11_led_0_v0, b_X11_led_0_v1, b_X11_led_0_v2, b_X11_led_0_v3, b_X11_led_0_o, b_X11_led_32, b_X11_led_40, b_X11_led_48, b_X11_led_56, b_X11_led_64, qB_some, psh_some, psh_none, and_true, true_and, and_false, false_and, and_self, or_true, true_or, or_false, false_or, not_true_eq_false, not_false_eq_true, ↓reduceIte, Int.reduceEq, Int.reduceLT, Int.reduceLE, Int.reduceToNat, Nat.reduceEqDiff, Nat.reduceAdd]) (by simp (disch := omega) only [e_X12_led, b_X12_led_0_v0, b_X12_led_0_v1, b_X12_led_0_v2, b_X12_led_0_v3, b_X12_led_0_o, b_X12_led_32, b_X12_led_37, b_X12_led_42, b_X12_led_47, b_X12_led_52, e1, qB_some, psh_some, psh_none, and_true, true_and, and_false, false_and, and_self, or_true, true_or, or_false, false_or, not_true_eq_false, not_false_eq_true, ↓reduceIte, Int.reduceEq, Int.reduceLT, Int.reduceLE, Int.reduceToNat, Nat.reduceEqDiff, Nat.reduceAdd])
    · exact opR_no (r := v 47 2) h (by simp (disch := omega) only [e_X11_led, b_X11_led_0_v0, b_X11_led_0_v1, b_X11_led_0_v2, b_X11_led_0_v3, b_X11_led_0_o, b_X11_led_32, b_X11_led_40, b_X11_led_48, b_X11_led_56, b_X11_led_64, qB_some, psh_some, psh_none, and_true, true_and, and_false, false_and, and_self, or_true, true_or, or_false, false_or, not_true_eq_false, not_false_eq_true, ↓reduceIte, Int.reduceEq, Int.reduceLT, Int.reduceLE, Int.reduceToNat, Nat.reduceEqDiff, Nat.reduceAdd]) (by simp (disch := omega) only [e_X12_led, b_X12_led_0_v0, b_X12_led_0_v1, b_X12_led_0_v2, b_X12_led_0_v3, b_X12_led_0_o, b_X12_led_32, b_X12_led_37, b_X12_led_42, b_X12_led_47, b_X12_led_52, e2, qB_some, psh_some, psh_none, and_true, true_and, and_false, false_and, and_self, or_true, true_or, or_false, false_or, not_true_eq_false, not_false_eq_true, ↓reduceIte, Int.reduceEq, Int.reduceLT, Int.reduceLE, Int.reduceToNat, Nat.reduceEqDiff, Nat.reduceAdd])
    · exact opR_no (r := v 47 3) h (by simp (disch := omega) only [e_X11_led, b_X11_led_0_v0, b_X11_led_0_v1, b_X11_led_0_v2, b_X11_led_0_v3, b_X11_led_0_o, b_X11_led_32, b_X11_led_40, b_X11_led_48, b_X11_led_56, b_X11_led_64, qB_some, psh_some, psh_none, and_true, true_and, and_false, false_and, and_self, or_true, true_or, or_false, false_or, not_true_eq_false, not_false_eq_true, ↓reduceIte, Int.reduceEq, Int.reduceLT, Int.reduceLE, Int.reduceToNat, Nat.reduceEqDiff, Nat.reduceAdd]) (by simp (disch := omega) only [e_X12_led, b_X12_led_0_v0, b_X12_led_0_v1, b_X12_led_0_v2, b_X12_led_0_v3, b_X12_led_0_o, b_X12_led_32, b_X12_led_37, b_X12_led_42, b_X12_led_47, b_X12_led_52, e3, qB_some, psh_some, psh_none, and_true, true_and, and_false, false_and, and_self, or_true, true_or, or_false, false_or, not_true_eq_false, not_false_eq_true, ↓reduceIte, Int.reduceEq, Int.reduceLT, Int.reduceLE, Int.reduceToNat, Nat.reduceEqDiff, Nat.reduceAdd])
    · exact opR_no (r := v 47 0) h (by simp (disch := omega) only [e_X11_led, b_X11_led_0_v0, b_X11_led_0_v1, b_X11_led_0_v2, b_X11_led_0_v3, b_X11_led_0_o, b_X11_led_32, b_X11_led_40, b_X11_led_48, b_X11_led_56, b_X11_led_64, qB_some, psh_some, psh_none, and_true, true_and, and_false, false_and, and_self, or_true, true_or, or_false, false_or, not_true_eq_false, not_false_eq_true, ↓reduceIte, Int.reduceEq, Int.reduceLT, Int.reduceLE, Int.reduceToNat, Nat.reduceEqDiff, Nat.reduceAdd]) (by simp (disch := omega) only [e_X12_led, b_X12_led_0_v0, b_X12_led_0_v1, b_X12_led_0_v2, b_X12_led_0_v3, b_X12_led_0_o, b_X12_led_32, b_X12_led_37, b_X12_led_42, b_X12_led_47, b_X12_led_52, e0, qB_some, psh_some, psh_none, and_true, true_and, and_false, false_and, and_self, or_true, true_or, or_false, false_or, not_true_eq_false, not_false_eq_true, ↓reduceIte, Int.reduceEq, Int.reduceLT, Int.reduceLE, Int.reduceToNat, Nat.reduceEqDiff, Nat.reduceAdd])
  · refine opR_no (r := -1) h ?_ ?_
    · simp (disch := omega) only [e_X11_led, b_X11_led_0_o, e_X11_led, b_X11_led_0_v0, b_X11_led_0_v1, b_X11_led_0_v2, b_X11_led_0_v3, b_X11_led_0_o, b_X11_led_32, b_X11_led_40, b_X11_led_48, b_X11_led_56, b_X11_led_64, qB_some, psh_some, psh_none, and_true, true_and, and_false, false_and, and_self, or_true, true_or, or_false, false_or, not_true_eq_false, not_false_eq_true, ↓reduceIte, Int.reduceEq, Int.reduceLT, Int.reduceLE, Int.reduceToNat, Nat.reduceEqDiff, Nat.reduceAdd]
    · simp (disch := omega) only [e_X12_led, b_X12_led_0_o, e_X12_led, b_X12_led_0_v0, b_X12_led_0_v1, b_X12_led_0_v2, b_X12_led_0_v3, b_X12_led_0_o, b_X12_led_32, b_X12_led_37, b_X12_led_42, b_X12_led_47, b_X12_led_52, qB_some, psh_some, psh_none, and_true, true_and, and_false, false_and, and_self, or_true, true_or, or_false, false_or, not_true_eq_false, not_false_eq_true, ↓reduceIte, Int.reduceEq, Int.reduceLT, Int.reduceLE, Int.reduceToNat, Nat.reduceEqDiff, Nat.reduceAdd]
theorem opr_count (h : rlR v) (a : Int) : opR L xs v nX11_count nX12_count 0 [(0, a)] := by
  have e0 := h.1.2.2.2.1.1
  have e1 := h.1.2.2.2.1.2
  have e2 := h.2.2.1.1
  have e3 := h.2.1.2.1.1
  have e4 := h.2.2.2.2.2.2.1.2.1
  have e5 := h.2.2.2.2.2.2.1.2.2.2.1
  by_cases h1 : a = 0 ∨ a = 1 ∨ a = 2 ∨ a = 3 ∨ a = 4 ∨ a = 5
  · rcases h1 with rfl | rfl | rfl | rfl | rfl | rfl
    · exact opR_no (r := v 1 1) h (by simp (disch := omega) only [e_X11_count, b_X11_count_0_v0, b_X11_count_0_v1, b_X11_count_0_v2, b_X11_count_0_v3, b_X11_count_0_v4, b_X11_count_0_v5, b_X11_count_0_o, b_X11_count_40, b_X11_count_48, b_X11_count_56, b_X11_count_64, b_X11_count_72, b_X11_count_80, b_X11_count_88, qB_some, psh_some, psh_none, and_true, true_and, and_false, false_and, and_self, or_true, true_or, or_false, false_or, not_true_eq_false, not_false_eq_true, ↓reduceIte, Int.reduceEq, Int.reduceLT, Int.reduceLE, Int.reduceToNat, Nat.reduceEqDiff, Nat.reduceAdd]) (by simp (disch := omega) only [e_X12_count, b_X12_count_0_v0, b_X12_count_0_v1, b_X12_count_0_v2, b_X12_count_0_v3, b_X12_count_0_v4, b_X12_count_0_v5, b_X12_count_0_o, b_X12_count_40, b_X12_count_45, b_X12_count_50, b_X12_count_55, b_X12_count_60, b_X12_count_65, b_X12_count_70, e0, qB_some, psh_some, psh_none, and_true, true_and, and_false, false_and, and_self, or_true, true_or, or_false, false_or, not_true_eq_false, not_false_eq_true, ↓reduceIte, Int.reduceEq, Int.reduceLT, Int.reduceLE, Int.reduceToNat, Nat.reduceEqDiff, Nat.reduceAdd])
    · exact opR_no (r := v 1 2) h (by simp (disch := omega) only [e_X11_count, b_X11_count_0_v0, b_X11_count_0_v1, b_X11_count_0_v2, b_X11_count_0_v3, b_X11_count_0_v4, b_X11_count_0_v5, b_X11_count_0_o, b_X11_count_40, b_X11_count_48, b_X11_count_56, b_X11_count_64, b_X11_count_72, b_X11_count_80, b_X11_count_88, qB_some, psh_some, psh_none, and_true, true_and, and_false, false_and, and_self, or_true, true_or, or_false, false_or, not_true_eq_false, not_false_eq_true, ↓reduceIte, Int.reduceEq, Int.reduceLT, Int.reduceLE, Int.reduceToNat, Nat.reduceEqDiff, Nat.reduceAdd]) (by simp (disch := omega) only [e_X12_count, b_X12_count_0_v0, b_X12_count_0_v1, b_X12_count_0_v2, b_X12_count_0_v3, b_X12_count_0_v4, b_X12_count_0_v5, b_X12_count_0_o, b_X12_count_40, b_X12_count_45, b_X12_count_50, b_X12_count_55, b_X12_count_60, b_X12_count_65, b_X12_count_70, e1, qB_some, psh_some, psh_none, and_true, true_and, and_false, false_and, and_self, or_true, true_or, or_false, false_or, not_true_eq_false, not_false_eq_true, ↓reduceIte, Int.reduceEq, Int.reduceLT, Int.reduceLE, Int.reduceToNat, Nat.reduceEqDiff, Nat.reduceAdd])
    · exact opR_no (r := v 23 10) h (by simp (disch := omega) only [e_X11_count, b_X11_count_0_v0, b_X11_count_0_v1, b_X11_count_0_v2, b_X11_count_0_v3, b_X11_count_0_v4, b_X11_count_0_v5, b_X11_count_0_o, b_X11_count_40, b_X11_count_48, b_X11_count_56, b_X11_count_64, b_X11_count_72, b_X11_count_80, b_X11_count_88, qB_some, psh_some, psh_none, and_true, true_and, and_false, false_and, and_self, or_true, true_or, or_false, false_or, not_true_eq_false, not_false_eq_true, ↓reduceIte, Int.reduceEq, Int.reduceLT, Int.reduceLE, Int.reduceToNat, Nat.reduceEqDiff, Nat.reduceAdd]) (by simp (disch := omega) only [e_X12_count, b_X12_count_0_v0, b_X12_count_0_v1, b_X12_count_0_v2, b_X12_count_0_v3, b_X12_count_0_v4, b_X12_count_0_v5, b_X12_count_0_o, b_X12_count_40, b_X12_count_45, b_X12_count_50, b_X12_count_55, b_X12_count_60, b_X12_count_65, b_X12_count_70, e2, qB_some, psh_some, psh_none, and_true, true_and, and_false, false_and, and_self, or_true, true_or, or_false, false_or, not_true_eq_false, not_false_eq_true, ↓reduceIte, Int.reduceEq, Int.reduceLT, Int.reduceLE, Int.reduceToNat, Nat.reduceEqDiff, Nat.reduceAdd])
    · exact opR_no (r := v 18 4) h (by simp (disch := omega) only [e_X11_count, b_X11_count_0_v0, b_X11_count_0_v1, b_X11_count_0_v2, b_X11_count_0_v3, b_X11_count_0_v4, b_X11_count_0_v5, b_X11_count_0_o, b_X11_count_40, b_X11_count_48, b_X11_count_56, b_X11_count_64, b_X11_count_72, b_X11_count_80, b_X11_count_88, qB_some, psh_some, psh_none, and_true, true_and, and_false, false_and, and_self, or_true, true_or, or_false, false_or, not_true_eq_false, not_false_eq_true, ↓reduceIte, Int.reduceEq, Int.reduceLT, Int.reduceLE, Int.reduceToNat, Nat.reduceEqDiff, Nat.reduceAdd]) (by simp (disch := omega) only [e_X12_count, b_X12_count_0_v0, b_X12_count_0_v1, b_X12_count_0_v2, b_X12_count_0_v3, b_X12_count_0_v4, b_X12_count_0_v5, b_X12_count_0_o, b_X12_count_40, b_X12_count_45, b_X12_count_50, b_X12_count_55, b_X12_count_60, b_X12_count_65, b_X12_count_70, e3, qB_some, psh_some, psh_none, and_true, true_and, and_false, false_and, and_self, or_true, true_or, or_false, false_or, not_true_eq_false, not_false_eq_true, ↓reduceIte, Int.reduceEq, Int.reduceLT, Int.reduceLE, Int.reduceToNat, Nat.reduceEqDiff, Nat.reduceAdd])
    · exact opR_no (r := v 49 2) h (by simp (disch := omega) only [e_X11_count, b_X11_count_0_v0, b_X11_count_0_v1, b_X11_count_0_v2, b_X11_count_0_v3, b_X11_count_0_v4, b_X11_count_0_v5, b_X11_count_0_o, b_X11_count_40, b_X11_count_48, b_X11_count_56, b_X11_count_64, b_X11_count_72, b_X11_count_80, b_X11_count_88, qB_some, psh_some, psh_none, and_true, true_and, and_false, false_and, and_self, or_true, true_or, or_false, false_or, not_true_eq_false, not_false_eq_true, ↓reduceIte, Int.reduceEq, Int.reduceLT, Int.reduceLE, Int.reduceToNat, Nat.reduceEqDiff, Nat.reduceAdd]) (by simp (disch := omega) only [e_X12_count, b_X12_count_0_v0, b_X12_count_0_v1, b_X12_count_0_v2, b_X12_count_0_v3, b_X12_count_0_v4, b_X12_count_0_v5, b_X12_count_0_o, b_X12_count_40, b_X12_count_45, b_X12_count_50, b_X12_count_55, b_X12_count_60, b_X12_count_65, b_X12_count_70, e4, qB_some, psh_some, psh_none, and_true, true_and, and_false, false_and, and_self, or_true, true_or, or_false, false_or, not_true_eq_false, not_false_eq_true, ↓reduceIte, Int.reduceEq, Int.reduceLT, Int.reduceLE, Int.reduceToNat, Nat.reduceEqDiff, Nat.reduceAdd])
    · exact opR_no (r := v 49 3) h (by simp (disch := omega) only [e_X11_count, b_X11_count_0_v0, b_X11_count_0_v1, b_X11_count_0_v2, b_X11_count_0_v3, b_X11_count_0_v4, b_X11_count_0_v5, b_X11_count_0_o, b_X11_count_40, b_X11_count_48, b_X11_count_56, b_X11_count_64, b_X11_count_72, b_X11_count_80, b_X11_count_88, qB_some, psh_some, psh_none, and_true, true_and, and_false, false_and, and_self, or_true, true_or, or_false, false_or, not_true_eq_false, not_false_eq_true, ↓reduceIte, Int.reduceEq, Int.reduceLT, Int.reduceLE, Int.reduceToNat, Nat.reduceEqDiff, Nat.reduceAdd]) (by simp (disch := omega) only [e_X12_count, b_X12_count_0_v0, b_X12_count_0_v1, b_X12_count_0_v2, b_X12_count_0_v3, b_X12_count_0_v4, b_X12_count_0_v5, b_X12_count_0_o, b_X12_count_40, b_X12_count_45, b_X12_count_50, b_X12_count_55, b_X12_count_60, b_X12_count_65, b_X12_count_70, e5, qB_some, psh_some, psh_none, and_true, true_and, and_false, false_and, and_self, or_true, true_or, or_false, false_or, not_true_eq_false, not_false_eq_true, ↓reduceIte, Int.reduceEq, Int.reduceLT, Int.reduceLE, Int.reduceToNat, Nat.reduceEqDiff, Nat.reduceAdd])
  · refine opR_no (r := -1) h ?_ ?_
    · simp (disch := omega) only [e_X11_count, b_X11_count_0_v0, b_X11_count_0_v1, b_X11_count_0_v2, b_X11_count_0_v3, b_X11_count_0_v4, b_X11_count_0_v5, b_X11_count_0_o, b_X11_count_40, b_X11_count_48, b_X11_count_56, b_X11_count_64, b_X11_count_72, b_X11_count_80, b_X11_count_88, qB_some, psh_some, psh_none, and_true, true_and, and_false, false_and, and_self, or_true, true_or, or_false, false_or, not_true_eq_false, not_false_eq_true, ↓reduceIte, Int.reduceEq, Int.reduceLT, Int.reduceLE, Int.reduceToNat, Nat.reduceEqDiff, Nat.reduceAdd]
    · simp (disch := omega) only [e_X12_count, b_X12_count_0_v0, b_X12_count_0_v1, b_X12_count_0_v2, b_X12_count_0_v3, b_X12_count_0_v4, b_X12_count_0_v5, b_X12_count_0_o, b_X12_count_40, b_X12_count_45, b_X12_count_50, b_X12_count_55, b_X12_count_60, b_X12_count_65, b_X12_count_70, qB_some, psh_some, psh_none, and_true, true_and, and_false, false_and, and_self, or_true, true_or, or_false, false_or, not_true_eq_false, not_false_eq_true, ↓reduceIte, Int.reduceEq, Int.reduceLT, Int.reduceLE, Int.reduceToNat, Nat.reduceEqDiff, Nat.reduceAdd]
theorem opr_trace (h : rlR v) (a : Int) : opR L xs v nX11_trace nX12_trace 0 [(0, a)] := by
  obtain ⟨-, -, -, e5, e6, e7⟩ := h.2.2.2.2.2.2.1
  have tn : ∀ d, qE L xs (d + 1) nX0_tracedNow [(2, 49)] (qS v) = some (some (0, pm_min (v 49 3) 24), qS v) := fun d => by
    simp only [e_X0_tracedNow, b_X0_tracedNow_0, qB_some, psh_some, psh_none, and_true, true_and, and_false, false_and, and_self, or_true, true_or, or_false, false_or, not_true_eq_false, not_false_eq_true, ↓reduceIte, Int.reduceEq, Int.reduceLT, Int.reduceLE, Int.reduceToNat, Nat.reduceEqDiff, Nat.reduceAdd]
  have tm := mn_le (v 49 3) 24
  by_cases g : 0 ≤ a ∧ a < v 49 3 ∧ a < 24
  · obtain ⟨i, rfl⟩ : ∃ i : Nat, a = (i : Int) := ⟨a.toNat, by omega⟩
    refine opR_no (r := v 51 i) h ?_ ?_
    · rw [e_X11_trace, b_X11_trace_0, if_neg (by omega), b_X11_trace_4, tn, qB_some, psh_some, b_X11_trace_12, if_pos (by omega), b_X11_trace_15, e_X0_traced, b_X0_traced_0, if_neg (by omega), b_X0_traced_4, tn, qB_some, psh_some, b_X0_traced_9, if_pos (by omega), b_X0_traced_12, if_pos (by omega), Int.toNat_natCast, b_X0_traced_18, b_X0_traced_22, qB_some, psh_some, b_X11_trace_23, b_X11_trace_27]
    · rw [e_X12_trace, b_X12_trace_0, if_neg (by omega), b_X12_trace_4, if_pos (by omega), b_X12_trace_12, if_pos (by omega), b_X12_trace_18, if_pos (by omega), Int.toNat_natCast, b_X12_trace_24, b_X12_trace_28, e7 i (by omega) (by omega)]
  · refine opR_no (r := -1) h ?_ ?_
    · rw [e_X11_trace, b_X11_trace_0]
      by_cases g1 : a < 0
      · rw [if_pos g1, b_X11_trace_26, b_X11_trace_27]
      · rw [if_neg g1, b_X11_trace_4, tn, qB_some, psh_some, b_X11_trace_12, if_neg (by omega), b_X11_trace_26, b_X11_trace_27]
    · rw [e_X12_trace, b_X12_trace_0]
      by_cases g1 : a < 0
      · rw [if_pos g1, b_X12_trace_27, b_X12_trace_28]
      · rw [if_neg g1, b_X12_trace_4]
        by_cases g2 : a < v 49 3
        · rw [if_pos (by omega), b_X12_trace_12, if_neg (by omega), b_X12_trace_27, b_X12_trace_28]
        · rw [if_neg (by omega), b_X12_trace_27, b_X12_trace_28]
theorem opr_digs (h : rlR v) : opR L xs v nX11_digs nX12_digs 0 [] := by
  have p1 := h.1.1
  have pL := rW_L h.1
  have pM := rM_L h.1
  have p6 := h.1.2.2.2.1.1
  have hG := h.2.2.2.2.2.1
  obtain ⟨⟨e0, e1, e2, e3⟩, q1, -⟩ := hG
  obtain ⟨H, hH⟩ : ∃ H : Nat, v 1 1 = (H : Int) := ⟨(v 1 1).toNat, by omega⟩
  by_cases g2 : H < 12
  · by_cases g : v 47 0 < 2 * v 11 0
    · have hd : w32 (Int.tdiv (v 47 0) 2) = v 47 0 / 2 := by rw [td_pos 2 (by omega), w32_id (by omega) (by omega)]
      obtain ⟨w1, hw1⟩ : ∃ w1, w1 = pm_up (pm_up v 47 1 (w32 (v 47 1 + 60))) 47 3 (w32 (v 47 3 + 1)) := ⟨_, rfl⟩
      obtain ⟨w2, hw2⟩ : ∃ w2, w2 = pm_up (pm_up w1 1 1 ((H : Int) + 1)) 15 H (v 47 0 / 2) := ⟨_, rfl⟩
      obtain ⟨w3, hw3⟩ : ∃ w3, w3 = pm_up (pm_up w2 63 33 (w32 (v 47 1 + 60))) 63 35 (w32 (v 47 3 + 1)) := ⟨_, rfl⟩
      obtain ⟨w4, hw4⟩ : ∃ w4, w4 = pm_up (pm_up (pm_up (pm_up w3 68 H (v 47 0 / 2)) 64 (90 + H) 1) 64 (102 + H) 1) 63 6 ((H : Int) + 1) := ⟨_, rfl⟩
      have hu : ∀ c j, ¬ (c = 47 ∧ (j = 1 ∨ j = 3) ∨ c = 1 ∧ j = 1 ∨ c = 15 ∧ j = H ∨ c = 63 ∧ (j = 33 ∨ j = 35 ∨ j = 6) ∨ c = 68 ∧ j = H ∨ c = 64 ∧ (j = 90 + H ∨ j = 102 + H)) → w4 c j = v c j := fun c j q => by
        rw [hw4, up_ne (by omega), up_ne (by omega), up_ne (by omega), up_ne (by omega), hw3, up_ne (by omega), up_ne (by omega), hw2, up_ne (by omega), up_ne (by omega), hw1, up_ne (by omega), up_ne (by omega)]
      refine ⟨(H : Int), w2, w4, ?_, ?_, ?_⟩
      · have ah := c_addHole (L := L) (xs := xs) (d := 995) (v := w1) (by rw [hw1, up_ne (by omega), up_ne (by omega)]; omega) (by rw [hw1, up_ne (by omega), up_ne (by omega)]; omega) (v 47 0 / 2)
        rw [show w1 1 1 = (H : Int) by rw [hw1, up_ne (by omega), up_ne (by omega)]; exact hH, Int.toNat_natCast, ← hw2] at ah
        rw [e_X11_digs, b_X11_digs_0, if_pos (by omega), b_X11_digs_15, c_hasPlace (by omega) (by omega), qB_some, psh_some, b_X11_digs_29, zb_0, if_pos (by omega), b_X11_digs_35, b_X11_digs_49, up_ne (by omega), ← hw1, b_X11_digs_62, show w1 47 0 = v 47 0 by rw [hw1, up_ne (by omega), up_ne (by omega)], hd, ah, qB_some, psh_some, b_X11_digs_78]
      · have k0 : w2 63 6 = (H : Int) := by rw [hw2, up_ne (by omega), up_ne (by omega), hw1, up_ne (by omega), up_ne (by omega)]; omega
        have k1 : w2 63 32 = v 47 0 := by rw [hw2, up_ne (by omega), up_ne (by omega), hw1, up_ne (by omega), up_ne (by omega)]; exact e0
        have k2 : w2 63 33 = v 47 1 := by rw [hw2, up_ne (by omega), up_ne (by omega), hw1, up_ne (by omega), up_ne (by omega)]; exact e1
        have k3 : w2 63 35 = v 47 3 := by rw [hw2, up_ne (by omega), up_ne (by omega), hw1, up_ne (by omega), up_ne (by omega)]; exact e3
        have k4 : w2 64 140 = v 11 0 := by rw [hw2, up_ne (by omega), up_ne (by omega), hw1, up_ne (by omega), up_ne (by omega)]; exact pM
        have ah := m_addsHole (L := L) (xs := xs) (d := 998) (v := w3) (H := H) (by rw [hw3, up_ne (by omega), up_ne (by omega)]; exact k0) g2 (v 47 0 / 2)
        rw [← hw4] at ah
        rw [e_X12_digs, b_X12_digs_0, k0, if_neg (by omega), b_X12_digs_12, k1, c_isPlace (by omega) (by omega), k4, qB_some, psh_some, b_X12_digs_21, zb_0, if_pos (by omega), b_X12_digs_27, k2, b_X12_digs_38, up_ne (by omega), k3, ← hw3, b_X12_digs_48, show w3 63 32 = v 47 0 by rw [hw3, up_ne (by omega), up_ne (by omega)]; exact k1, hd, ah, qB_some, psh_some, b_X12_digs_58]
      · have hW : rlW w4 := by
          refine rW_hole (a := v 47 0 / 2) h.1 hH g2 (by omega) ?_ ?_ ?_ ?_ ?_ ?_ (fun c j q z1 z2 z3 z4 z5 => hu c j (by unfold dsW at q; omega))
          · rw [hw4, hw3, hw2]; simp (disch := omega) only [up_ne, up_eq]
          · rw [hw4, hw3, hw2]; simp (disch := omega) only [up_ne, up_eq]
          · rw [hw4]; simp (disch := omega) only [up_ne, up_eq]
          · rw [hw4]; simp (disch := omega) only [up_ne, up_eq]
          · rw [hw4]; simp (disch := omega) only [up_ne, up_eq]
          · rw [hw4]; simp (disch := omega) only [up_ne, up_eq]
        have hC : rlC w4 := rlC_mono (v := v) (by rw [hw4, hw3, hw2]; simp (disch := omega) only [up_ne, up_eq]; omega) (by rw [hu 1 2 (by omega)]; omega) (fun c j q z => hu c j (by unfold dsC at q; omega)) h.2.1
        have hG4 : rlG w4 := by
          refine rG_set h.2.2.2.2.2.1 ?_ ?_ ?_ ?_ ?_ (fun c j q z1 z2 => hu c j (by unfold dsG at q; omega))
          · rw [hu 63 32 (by omega), hu 47 0 (by omega)]; exact e0
          · rw [hw4, hw3, hw2, hw1]; simp (disch := omega) only [up_ne, up_eq]
          · rw [hu 63 34 (by omega), hu 47 2 (by omega)]; exact e2
          · rw [hw4, hw3, hw2, hw1]; simp (disch := omega) only [up_ne, up_eq]
          · rw [hu 47 0 (by omega)]; exact q1
        exact rlR_or h (Or.inl hW) (Or.inl hC) (Or.inr (fun c j q => hu c j (by unfold dsT at q; omega))) (Or.inr (fun c j q => hu c j (by unfold dsL at q; omega))) (Or.inr (fun c j q => hu c j (by unfold dsD at q; omega))) (Or.inl hG4) (Or.inr (fun c j q => hu c j (by unfold dsB at q; omega))) (Or.inr (fun c j q => hu c j (by unfold dsS at q; omega))) (Or.inr (fun c j q => hu c j (by unfold dsN at q; omega)))
    · refine opR_no (r := -5) h ?_ ?_
      · rw [e_X11_digs, b_X11_digs_0, if_pos (by omega), b_X11_digs_15, c_hasPlace (by omega) (by omega), qB_some, psh_some, b_X11_digs_29, zb_0, if_neg (by omega), b_X11_digs_32]
      · rw [e_X12_digs, b_X12_digs_0, if_neg (by omega), b_X12_digs_12, c_isPlace (by omega) (by omega), qB_some, psh_some, b_X12_digs_21, zb_0, if_neg (by omega), b_X12_digs_24]
  · refine opR_no (r := -3) h ?_ ?_
    · rw [e_X11_digs, b_X11_digs_0, if_neg (by omega), b_X11_digs_12]
    · rw [e_X12_digs, b_X12_digs_0, if_pos (by omega), b_X12_digs_9]
theorem opr_turn (h : rlR v) (a b : Int) : opR L xs v nX11_turn nX12_turn 0 [(0, a), (0, b)] := by
  obtain ⟨p1, p2, p3, p4, p5, p6, p7, p8⟩ := h.1
  have pL := rW_L h.1
  have pM := rM_L h.1
  obtain ⟨⟨e0, e1, e2, e3⟩, q1, -⟩ := h.2.2.2.2.2.1
  have hd : w32 (Int.tdiv (v 47 0) 2) = v 47 0 / 2 := by rw [td_pos 2 (by omega), w32_id (by omega) (by omega)]
  have a3 : hm v 3 = v 1 1 := rfl
  have a12 : hm v 12 = v 1 1 := rfl
  by_cases g : (0 ≤ a ∧ a < v 1 1) ∧ 0 ≤ b ∧ b ≤ 1
  · obtain ⟨i, rfl⟩ : ∃ i : Nat, a = (i : Int) := ⟨a.toNat, by omega⟩
    have hi : (i : Int) < v 1 1 := g.1.2
    have r15 := p6 i hi
    have r64 := rM_ho h.1 i hi
    have cb : qE L xs 1000 nX11_turn [(2, 0), (0, (i : Int)), (0, b)] (qS v) = (if v 47 0 < 2 * v 11 0 ∧ v 15 i = v 47 0 / 2 then qG L xs 999 CX11_turn 65 [(2, 0), (0, (i : Int)), (0, b), (9, 0)] [] (qS v) else some (some (0, -5), qS v)) := by
      rw [e_X11_turn, b_X11_turn_0, c_has, qB_some, psh_some, b_X11_turn_9, zb_0, if_pos (by omega), b_X11_turn_12, if_neg (by omega), b_X11_turn_16, if_neg (by omega), b_X11_turn_23, c_hasPlace (by omega) (by omega), qB_some, psh_some, b_X11_turn_37, zb_0]
      by_cases z : v 47 0 < 2 * v 11 0
      · rw [if_pos (by omega), b_X11_turn_40, c_value_in 12 i (by omega) (by omega) (by omega) (by omega) (by omega), qB_some, psh_some, show v (3 + (12 : Int).toNat) (i : Int).toNat = v 15 i from rfl, b_X11_turn_50, hd]
        by_cases z2 : v 15 i = v 47 0 / 2
        · rw [if_pos z2, if_pos ⟨z, z2⟩]
        · rw [if_neg z2, if_neg (fun y => z2 y.2), b_X11_turn_62]
      · rw [if_neg (by omega), if_neg (fun y => z y.1), b_X11_turn_62]
    have mb : ∀ w : Nat → Nat → Int, w 63 6 = v 63 6 → w 68 = v 68 → w 63 32 = v 63 32 → w 64 140 = v 64 140 → qE L xs 1000 nX12_turn [(2, 63), (0, (i : Int)), (0, b)] (qS w) = (if v 47 0 < 2 * v 11 0 ∧ v 15 i = v 47 0 / 2 then qG L xs 999 CX12_turn 60 [(2, 63), (0, (i : Int)), (0, b), (9, 0)] [] (qS w) else some (some (0, -5), qS w)) := fun w w1 w2 w3 w4 => by
      rw [e_X12_turn, b_X12_turn_0, c_within, qB_some, psh_some, b_X12_turn_13, zb_0, w1, w32_id (by omega) (by omega), if_pos (by omega), b_X12_turn_16, c_within, qB_some, psh_some, b_X12_turn_23, zb_0, if_pos g.2, b_X12_turn_28, if_pos (by omega), Int.toNat_natCast, w2, r15.1, b_X12_turn_34, w3, e0, hd]
      by_cases z2 : v 15 i = v 47 0 / 2
      · rw [if_pos z2, b_X12_turn_43, w3, e0, hd, c_isYard (by omega) (by omega), qB_some, psh_some, b_X12_turn_54, zb_0]
        by_cases z : v 47 0 < 2 * v 11 0
        · rw [if_pos (by omega), if_pos ⟨z, z2⟩]
        · rw [if_neg (by omega), if_neg (fun y => z y.1), b_X12_turn_57]
      · rw [if_neg z2, if_neg (fun y => z2 y.2), b_X12_turn_57]
    by_cases z : v 47 0 < 2 * v 11 0 ∧ v 15 i = v 47 0 / 2
    · obtain ⟨w1, hw1⟩ : ∃ w1, w1 = pm_up (pm_up v 6 i b) 47 1 (w32 (v 47 1 + 1)) := ⟨_, rfl⟩
      obtain ⟨w2, hw2⟩ : ∃ w2, w2 = pm_up (pm_up w1 64 (90 + i) b) 63 33 (w32 (v 47 1 + 1)) := ⟨_, rfl⟩
      have hu : ∀ c j, ¬ (c = 6 ∧ j = i ∨ c = 47 ∧ j = 1 ∨ c = 64 ∧ j = 90 + i ∨ c = 63 ∧ j = 33) → w2 c j = v c j := fun c j q => by
        rw [hw2, up_ne (by omega), up_ne (by omega), hw1, up_ne (by omega), up_ne (by omega)]
      have hu1 : ∀ c j, ¬ (c = 6 ∧ j = i ∨ c = 47 ∧ j = 1) → w1 c j = v c j := fun c j q => by
        rw [hw1, up_ne (by omega), up_ne (by omega)]
      refine ⟨v 6 i, w1, w2, ?_, ?_, ?_⟩
      · rw [cb, if_pos z, b_X11_turn_65, c_value_in 3 i (by omega) (by omega) (by omega) (by omega) (by omega), qB_some, psh_some, show v (3 + (3 : Int).toNat) (i : Int).toNat = v 6 i from rfl, b_X11_turn_74, c_set_in 3 i b (by omega) (by omega) (by omega) (by omega) (by omega), qB_some, psh_none, show pm_up v (3 + (3 : Int).toNat) (i : Int).toNat b = pm_up v 6 i b from rfl, b_X11_turn_85, up_ne (by omega), ← hw1, b_X11_turn_98]
      · rw [mb w1 (hu1 63 6 (by omega)) (funext (fun j => hu1 68 j (by omega))) (hu1 63 32 (by omega)) (hu1 64 140 (by omega)), if_pos z, b_X12_turn_60, w32_id (by omega) (by omega), if_pos (by omega), show (90 + (i : Int)).toNat = 90 + i by omega, hu1 64 (90 + i) (by omega), r64, b_X12_turn_69, w32_id (by omega) (by omega), if_pos (by omega), show (90 + (i : Int)).toNat = 90 + i by omega, b_X12_turn_80, up_ne (by omega), hu1 63 33 (by omega), e1, ← hw2, b_X12_turn_90]
      · have hW : rlW w2 := by
          refine rW_set (k := 3) (n := i) (z := b) h.1 (by omega) (by show i < 12; omega) hi ⟨g.2.1, g.2.2⟩ ?_ ?_ (fun c j q z1 z2 => hu c j ?_)
          · show w2 6 i = b
            rw [hw2, hw1]; simp (disch := omega) only [up_ne, up_eq]
          · show w2 64 (90 + i) = b
            rw [hw2, hw1]; simp (disch := omega) only [up_ne, up_eq]
          · have z2' : ¬ (c = 64 ∧ j = 90 + i) := z2
            unfold dsW at q
            omega
        have hG2 : rlG w2 := by
          refine rG_set h.2.2.2.2.2.1 ?_ ?_ ?_ ?_ ?_ (fun c j q z1 z2 => hu c j (by unfold dsG at q; omega))
          · rw [hu 63 32 (by omega), hu 47 0 (by omega)]; exact e0
          · rw [hw2, hw1]; simp (disch := omega) only [up_ne, up_eq]
          · rw [hu 63 34 (by omega), hu 47 2 (by omega)]; exact e2
          · rw [hu 63 35 (by omega), hu 47 3 (by omega)]; exact e3
          · rw [hu 47 0 (by omega)]; exact q1
        exact rlR_or h (Or.inl hW) (Or.inr (fun c j q => hu c j (by unfold dsC at q; omega))) (Or.inr (fun c j q => hu c j (by unfold dsT at q; omega))) (Or.inr (fun c j q => hu c j (by unfold dsL at q; omega))) (Or.inr (fun c j q => hu c j (by unfold dsD at q; omega))) (Or.inl hG2) (Or.inr (fun c j q => hu c j (by unfold dsB at q; omega))) (Or.inr (fun c j q => hu c j (by unfold dsS at q; omega))) (Or.inr (fun c j q => hu c j (by unfold dsN at q; omega)))
    · refine opR_no (r := -5) h ?_ ?_
      · rw [cb, if_neg z]
      · rw [mb v rfl rfl rfl rfl, if_neg z]
  · refine opR_no (r := -1) h ?_ ?_
    · rw [e_X11_turn, b_X11_turn_0, c_has, qB_some, psh_some, b_X11_turn_9, zb_0, a3]
      by_cases g1 : 0 ≤ a ∧ a < v 1 1
      · rw [if_pos g1, b_X11_turn_12]
        by_cases g2 : b < 0
        · rw [if_pos g2, b_X11_turn_21]
        · rw [if_neg g2, b_X11_turn_16, if_pos (by omega), b_X11_turn_21]
      · rw [if_neg g1, b_X11_turn_21]
    · rw [e_X12_turn, b_X12_turn_0, c_within, qB_some, psh_some, b_X12_turn_13, zb_0, w32_id (by omega) (by omega)]
      by_cases g1 : 0 ≤ a ∧ a < v 1 1
      · rw [if_pos (by omega), b_X12_turn_16, c_within, qB_some, psh_some, b_X12_turn_23, zb_0, if_neg (by omega), b_X12_turn_26]
      · rw [if_neg (by omega), b_X12_turn_26]
theorem opr_feed (h : rlR v) (a : Int) : opR L xs v nX11_feed nX12_feed 0 [(0, a)] := by
  obtain ⟨e1, e2, e3, e4⟩ := h.2.2.1
  obtain ⟨F, hF⟩ : ∃ F : Nat, v 23 10 = (F : Int) := ⟨(v 23 10).toNat, by omega⟩
  by_cases g : 0 ≤ a ∧ a ≤ 255
  · by_cases g2 : F < 120
    · obtain ⟨w1, hw1⟩ : ∃ w1, w1 = pm_up (pm_up v 24 F a) 23 10 ((F : Int) + 1) := ⟨_, rfl⟩
      obtain ⟨w2, hw2⟩ : ∃ w2, w2 = pm_up (pm_up w1 71 F a) 63 12 ((F : Int) + 1) := ⟨_, rfl⟩
      have hu : ∀ c j, ¬ (c = 24 ∧ j = F ∨ c = 23 ∧ j = 10 ∨ c = 71 ∧ j = F ∨ c = 63 ∧ j = 12) → w2 c j = v c j := fun c j q => by
        rw [hw2, up_ne (by omega), up_ne (by omega), hw1, up_ne (by omega), up_ne (by omega)]
      refine ⟨(F : Int) + 1, w1, w2, ?_, ?_, ?_⟩
      · rw [e_X11_feed, b_X11_feed_0, if_neg (by omega), b_X11_feed_4, if_neg (by omega), b_X11_feed_13, e_X5_takeByte, b_X5_takeByte_0, if_pos (by omega), b_X5_takeByte_11, if_pos (by omega), hF, Int.toNat_natCast, b_X5_takeByte_21, up_ne (by omega), hF, w32_id (by omega) (by omega), ← hw1, b_X5_takeByte_31, qB_some, psh_some, b_X11_feed_21, if_neg (by decide), b_X11_feed_24, b_X11_feed_36, hw1, up_eq]
      · have k : w1 63 12 = (F : Int) := by rw [hw1, up_ne (by omega), up_ne (by omega)]; omega
        rw [e_X12_feed, b_X12_feed_0, c_within, qB_some, psh_some, b_X12_feed_9, zb_0, if_pos g, b_X12_feed_14, k, if_neg (by omega), b_X12_feed_26, k, if_pos (by omega), Int.toNat_natCast, b_X12_feed_36, up_ne (by omega), k, w32_id (by omega) (by omega), ← hw2, b_X12_feed_46, hw2, up_eq]
      · have hT : rlT w2 := by
          have k1 : w2 23 10 = (F : Int) + 1 := by rw [hw2, hw1]; simp (disch := omega) only [up_ne, up_eq]
          have k2 : w2 63 12 = (F : Int) + 1 := by rw [hw2, up_eq]
          refine ⟨by rw [k1, k2], by rw [k1]; omega, fun i hi => ?_, ?_⟩
          · rw [k1] at hi
            by_cases z : i = F
            · rw [z]
              have k3 : w2 71 F = a := by rw [hw2]; simp (disch := omega) only [up_ne, up_eq]
              have k4 : w2 24 F = a := by rw [hw2, hw1]; simp (disch := omega) only [up_ne, up_eq]
              rw [k3, k4]
              exact ⟨rfl, g⟩
            · rw [hu 71 i (by omega), hu 24 i (by omega)]
              exact e3 i (by omega)
          · rw [hu 23 1 (by omega), hu 23 2 (by omega)]
            exact e4
        exact rlR_or h (Or.inr (fun c j q => hu c j (by unfold dsW at q; omega))) (Or.inr (fun c j q => hu c j (by unfold dsC at q; omega))) (Or.inl hT) (Or.inr (fun c j q => hu c j (by unfold dsL at q; omega))) (Or.inr (fun c j q => hu c j (by unfold dsD at q; omega))) (Or.inr (fun c j q => hu c j (by unfold dsG at q; omega))) (Or.inr (fun c j q => hu c j (by unfold dsB at q; omega))) (Or.inr (fun c j q => hu c j (by unfold dsS at q; omega))) (Or.inr (fun c j q => hu c j (by unfold dsN at q; omega)))
    · refine opR_no (r := -3) h ?_ ?_
      · rw [e_X11_feed, b_X11_feed_0, if_neg (by omega), b_X11_feed_4, if_neg (by omega), b_X11_feed_13, e_X5_takeByte, b_X5_takeByte_0, if_neg (by omega), b_X5_takeByte_9, qB_some, psh_some, b_X11_feed_21, if_pos rfl, b_X11_feed_34, b_X11_feed_36]
      · rw [e_X12_feed, b_X12_feed_0, c_within, qB_some, psh_some, b_X12_feed_9, zb_0, if_pos g, b_X12_feed_14, if_pos (by omega), b_X12_feed_23]
  · refine opR_no (r := -1) h ?_ ?_
    · rw [e_X11_feed, b_X11_feed_0]
      by_cases g1 : a < 0
      · rw [if_pos g1, b_X11_feed_11]
      · rw [if_neg g1, b_X11_feed_4, if_pos (by omega), b_X11_feed_11]
    · rw [e_X12_feed, b_X12_feed_0, c_within, qB_some, psh_some, b_X12_feed_9, zb_0, if_neg g, b_X12_feed_12]
end OB2
