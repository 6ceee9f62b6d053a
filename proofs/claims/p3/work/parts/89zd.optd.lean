/-! THE LAW as the reference reads it: the loops of the levels -/
section OTD
variable {L : Nat} {xs : Nat → Int} {d : Nat} {v : Nat → Nat → Int} {b : Nat → Int} {e : Nat} {nm : Nat → Int}
theorem sg_0 (x : Int) : sgn 0 x ↔ x = 124 := by unfold sgn; omega
theorem sg_1 (x : Int) : sgn 1 x ↔ x = 38 := by unfold sgn; omega
theorem sg_2 (x : Int) : sgn 2 x ↔ x = 60 ∨ x = 61 ∨ x = 62 := by unfold sgn; omega
theorem sg_3 (x : Int) : sgn 3 x ↔ x = 43 ∨ x = 45 := by unfold sgn; omega
theorem sg_4 (x : Int) : sgn 4 x ↔ x = 42 ∨ x = 47 ∨ x = 37 := by unfold sgn; omega
theorem rk_step {k K R n : Nat} (h : k + 1 ≤ K) (hk : k < 120) (hn : 20 * (120 - k) + R < n + 1) : 20 * (120 - K) + R < n := by omega
theorem dp_2 (d o l : Nat) : ∃ D, dpR d o l = D + 2 := ⟨dpR d o l - 2, by unfold dpR; omega⟩
theorem rd_loop (h : rdB v b e) {n : Nat} (hA : rdA L xs d v b e nm n) (hC : rdC L xs d v b e nm n) : rdC L xs d v b e nm (n + 1) := by
  intro l o k f a z u2 u3 hl ho hk hz hn
  have he := h.2.1
  obtain ⟨D, hD⟩ := dp_2 d o (l + 1)
  by_cases q : f < 0 ∧ k < e ∧ sgn l (b k)
  · have rk1 : 20 * (120 - (k + 1)) + rkT (l + 1) < n := by
      have : l = 0 ∨ l = 1 ∨ l = 2 ∨ l = 3 ∨ l = 4 := by omega
      rcases this with rfl | rfl | rfl | rfl | rfl
      · have e1 : rkT 1 = 10 := rfl
        rw [e1]; omega
      · have e1 : rkT 2 = 8 := rfl
        rw [e1]; omega
      · have e1 : rkT 3 = 6 := rfl
        rw [e1]; omega
      · have e1 : rkT 4 = 4 := rfl
        rw [e1]; omega
      · have e1 : rkT 5 = 2 := rfl
        rw [e1]; omega
    obtain ⟨o1, p1, p2⟩ := hA (l + 1) o (k + 1) f (by omega) ho (by omega) q.1 rk1
    rw [show ((k + 1 : Nat) : Int) = (k : Int) + 1 by omega] at p2
    have le := txP_le (b := b) (e := e) n (l + 1) o (k + 1) f (by omega)
    have hz2 := hz q.1
    subst hz2
    have bk : byt b e k = b k := if_pos q.2.1
    have wk : w32 ((k : Int) + 1) = (k : Int) + 1 := w32_id (by omega) (by omega)
    by_cases l2 : l = 2
    · subst l2
      refine ⟨o1, fun hh => p1 (by rw [tx_cmp q] at hh; exact hh), ?_⟩
      rw [show 10 + 2 = 12 from rfl, tx_cmp q, vp_cmp q]
      show qG L xs (dpR d o 3) CX12_compared 4 [(2, 63), (9, 0), (9, 0), (9, 0)] [(0, a)] _ = _
      have c := (sg_2 (b k)).mp q.2.2
      have p2' : qE L xs (dpR d o 3) nX12_sums [(2, 63)] (qS (rdS v ((k : Int) + 1) f o)) = _ := p2
      have st : qG L xs (dpR d o 3) CX12_compared 17 [(2, 63), (0, a), (0, b k), (9, 0)] [] (qS (rdS v k f o)) = qG L xs (dpR d o 3) CX12_compared 37 [(2, 63), (0, a), (0, b k), (9, 0)] [] (qS (rdS v k f o)) := by
        rw [b_X12_compared_17]
        by_cases c1 : b k = 60
        · rw [if_pos c1]
        · rw [if_neg c1, b_X12_compared_23]
          by_cases c2 : b k = 61
          · rw [if_pos c2]
          · rw [if_neg c2, b_X12_compared_29, if_pos (by omega)]
      have by1 : qE L xs (dpR d o 3) nX12_byteAt [(2, 63)] (qS (rdS v (k : Int) f o)) = some (some (0, byt b e k), qS (rdS v (k : Int) f o)) := by
        rw [hD, show D + 2 = (D + 1) + 1 from rfl]
        exact mr_byteAt h
      rw [b_X12_compared_4, by1, qB_some, psh_some, bk, b_X12_compared_9, rd_18, if_pos q.1, st, b_X12_compared_37, rd_16, wk, rd_u16, b_X12_compared_47, p2', qB_some, psh_some, mr_cmp _ _ _ c]
    · have rk2 : 20 * (120 - (txP b e n (l + 1) o (k + 1) f).2.1) + rkT (10 + l) < n := rk_step le.1 (Nat.lt_of_lt_of_le q.2.1 he) hn
      have ihl := fun (u2' u3' : pm_V) => hC l o (txP b e n (l + 1) o (k + 1) f).2.1 (txP b e n (l + 1) o (k + 1) f).2.2 (jn (b k) a (vP b e nm n (l + 1) o (k + 1) f 0)) o1 u2' u3' hl ho le.2.1 p1 rk2
      rw [tx_lp_yes hl l2 q, vp_lp_yes hl l2 q]
      generalize hw : vP b e nm n (l + 1) o (k + 1) f 0 = w at *
      have : l = 0 ∨ l = 1 ∨ l = 3 ∨ l = 4 := by omega
      rcases this with rfl | rfl | rfl | rfl
      · obtain ⟨o2, q1, q2⟩ := ihl (0, w) u3
        refine ⟨o2, q1, ?_⟩
        rw [← q2]
        have c := (sg_0 (b k)).mp q.2.2
        have p2' : qE L xs (dpR d o 1) nX12_both [(2, 63)] (qS (rdS v ((k : Int) + 1) f o)) = _ := p2
        have tk : qE L xs (dpR d o 1) nX12_takes [(2, 63), (0, 124)] (qS (rdS v (k : Int) f o)) = some (some (0, 1), qS (rdS v ((k : Int) + 1) f o)) := by
          rw [hD, mr_takes h 124 (by decide), if_pos ⟨q.1, q.2.1, c⟩]
        show qG L xs (dpR d o 1) CX12_either 5 [(2, 63), (0, a), u2] [] _ = qG L xs (dpR d o 1) CX12_either 5 _ [] _
        rw [b_X12_either_5, tk, qB_some, psh_some, b_X12_either_11, if_neg (by decide), b_X12_either_14, p2', qB_some, psh_some, mr_or, c]
      · obtain ⟨o2, q1, q2⟩ := ihl (0, w) u3
        refine ⟨o2, q1, ?_⟩
        rw [← q2]
        have c := (sg_1 (b k)).mp q.2.2
        have p2' : qE L xs (dpR d o 2) nX12_compared [(2, 63)] (qS (rdS v ((k : Int) + 1) f o)) = _ := p2
        have tk : qE L xs (dpR d o 2) nX12_takes [(2, 63), (0, 38)] (qS (rdS v (k : Int) f o)) = some (some (0, 1), qS (rdS v ((k : Int) + 1) f o)) := by
          rw [hD, mr_takes h 38 (by decide), if_pos ⟨q.1, q.2.1, c⟩]
        show qG L xs (dpR d o 2) CX12_both 5 [(2, 63), (0, a), u2] [] _ = qG L xs (dpR d o 2) CX12_both 5 _ [] _
        rw [b_X12_both_5, tk, qB_some, psh_some, b_X12_both_11, if_neg (by decide), b_X12_both_14, p2', qB_some, psh_some, mr_and, c]
      · obtain ⟨o2, q1, q2⟩ := ihl (0, if b k = 43 then 1 else 0) (0, w)
        refine ⟨o2, q1, ?_⟩
        rw [← q2]
        have c := (sg_3 (b k)).mp q.2.2
        have p2' : qE L xs (dpR d o 4) nX12_product [(2, 63)] (qS (rdS v ((k : Int) + 1) f o)) = _ := p2
        have by1 : qE L xs (dpR d o 4) nX12_byteAt [(2, 63)] (qS (rdS v (k : Int) f o)) = some (some (0, b k), qS (rdS v (k : Int) f o)) := by
          rw [hD, show D + 2 = (D + 1) + 1 from rfl, mr_byteAt h, bk]
        have st : qG L xs (dpR d o 4) CX12_sums 16 [(2, 63), (0, a), u2, u3] [(0, b k)] (qS (rdS v k f o)) = qG L xs (dpR d o 4) CX12_sums 55 [(2, 63), (0, a), (0, if b k = 43 then 1 else 0), u3] [] (qS (rdS v ((k : Int) + 1) f o)) := by
          rw [b_X12_sums_16]
          by_cases c1 : b k = 43
          · rw [if_pos c1, if_pos c1, b_X12_sums_30, by1, qB_some, psh_some, b_X12_sums_34, if_pos c1, b_X12_sums_39, b_X12_sums_44, rd_16, wk, rd_u16]
          · rw [if_neg c1, if_neg c1, b_X12_sums_21, by1, qB_some, psh_some, b_X12_sums_25, if_pos (by omega), b_X12_sums_30, by1, qB_some, psh_some, b_X12_sums_34, if_neg c1, b_X12_sums_43, b_X12_sums_44, rd_16, wk, rd_u16]
        show qG L xs (dpR d o 4) CX12_sums 5 [(2, 63), (0, a), u2, u3] [] _ = qG L xs (dpR d o 4) CX12_sums 5 _ [] _
        rw [b_X12_sums_5, rd_18, if_pos q.1, b_X12_sums_12, by1, qB_some, psh_some, st, b_X12_sums_55, p2', qB_some, psh_some, mr_sum _ _ _ c]
      · obtain ⟨o2, q1, q2⟩ := ihl u2 (0, w)
        refine ⟨o2, q1, ?_⟩
        rw [← q2]
        have c := (sg_4 (b k)).mp q.2.2
        have p2' : qE L xs (dpR d o 5) nX12_one [(2, 63)] (qS (rdS v ((k : Int) + 1) f o)) = _ := p2
        have st : qG L xs (dpR d o 5) CX12_product 17 [(2, 63), (0, a), (0, b k), u3] [] (qS (rdS v k f o)) = qG L xs (dpR d o 5) CX12_product 35 [(2, 63), (0, a), (0, b k), u3] [] (qS (rdS v k f o)) := by
          rw [b_X12_product_17]
          by_cases c1 : b k = 42
          · rw [if_pos c1]
          · rw [if_neg c1, b_X12_product_23]
            by_cases c2 : b k = 47
            · rw [if_pos c2]
            · rw [if_neg c2, b_X12_product_29, if_pos (by omega)]
        have by2 : qE L xs (dpR d o 5) nX12_byteAt [(2, 63)] (qS (rdS v ((txP b e n 5 o (k + 1) f).2.1 : Int) (txP b e n 5 o (k + 1) f).2.2 o1)) = some (some (0, byt b e (txP b e n 5 o (k + 1) f).2.1), qS (rdS v ((txP b e n 5 o (k + 1) f).2.1 : Int) (txP b e n 5 o (k + 1) f).2.2 o1)) := by
          rw [hD, show D + 2 = (D + 1) + 1 from rfl]
          exact mr_byteAt h
        show qG L xs (dpR d o 5) CX12_product 10 [(2, 63), (0, a), (0, byt b e k), u3] [] _ = qG L xs (dpR d o 5) CX12_product 10 _ [] _
        rw [bk, b_X12_product_10, rd_18, if_pos q.1, st, b_X12_product_35, rd_16, wk, rd_u16, b_X12_product_45, p2', qB_some, psh_some, mr_prod _ _ _ c, b_X12_product_85, by2, qB_some, psh_some, b_X12_product_90]
  · refine ⟨z, fun hh => hz (by rw [tx_lp_no hl q] at hh; exact hh), ?_⟩
    rw [tx_lp_no hl q, vp_lp_no hl q]
    have by1 : qE L xs (dpR d o (l + 1)) nX12_byteAt [(2, 63)] (qS (rdS v (k : Int) f z)) = some (some (0, byt b e k), qS (rdS v (k : Int) f z)) := by
      rw [hD, show D + 2 = (D + 1) + 1 from rfl]
      exact mr_byteAt h
    have nb : f < 0 → ¬ sgn l (byt b e k) := fun hf hs => by
      unfold byt at hs
      by_cases g : k < e
      · rw [if_pos g] at hs
        exact q ⟨hf, g, hs⟩
      · rw [if_neg g] at hs
        unfold sgn at hs
        omega
    have : l = 0 ∨ l = 1 ∨ l = 2 ∨ l = 3 ∨ l = 4 := by omega
    rcases this with rfl | rfl | rfl | rfl | rfl
    · have tk : qE L xs (dpR d o 1) nX12_takes [(2, 63), (0, 124)] (qS (rdS v (k : Int) f z)) = some (some (0, 0), qS (rdS v (k : Int) f z)) := by
        rw [hD, mr_takes h 124 (by decide), if_neg (fun t => q ⟨t.1, t.2.1, (sg_0 _).mpr t.2.2⟩)]
      show qG L xs (dpR d o 1) CX12_either 5 [(2, 63), (0, a), u2] [] _ = _
      rw [b_X12_either_5, tk, qB_some, psh_some, b_X12_either_11, if_pos rfl, b_X12_either_36]
    · have tk : qE L xs (dpR d o 2) nX12_takes [(2, 63), (0, 38)] (qS (rdS v (k : Int) f z)) = some (some (0, 0), qS (rdS v (k : Int) f z)) := by
        rw [hD, mr_takes h 38 (by decide), if_neg (fun t => q ⟨t.1, t.2.1, (sg_1 _).mpr t.2.2⟩)]
      show qG L xs (dpR d o 2) CX12_both 5 [(2, 63), (0, a), u2] [] _ = _
      rw [b_X12_both_5, tk, qB_some, psh_some, b_X12_both_11, if_pos rfl, b_X12_both_36]
    · show qG L xs (dpR d o 3) CX12_compared 4 [(2, 63), (9, 0), (9, 0), (9, 0)] [(0, a)] _ = _
      rw [b_X12_compared_4, show qE L xs (dpR d o 3) nX12_byteAt [(2, 63)] (qS (rdS v (k : Int) f z)) = _ from by1, qB_some, psh_some, b_X12_compared_9, rd_18]
      by_cases g : f < 0
      · have nb2 := nb g
        rw [sg_2] at nb2
        rw [if_pos g, b_X12_compared_17, if_neg (by omega), b_X12_compared_23, if_neg (by omega), b_X12_compared_29, if_neg (by omega), b_X12_compared_35]
      · rw [if_neg g, b_X12_compared_35]
    · show qG L xs (dpR d o 4) CX12_sums 5 [(2, 63), (0, a), u2, u3] [] _ = _
      rw [b_X12_sums_5, rd_18]
      by_cases g : f < 0
      · have nb2 := nb g
        rw [sg_3] at nb2
        have by2 : qE L xs (dpR d o 4) nX12_byteAt [(2, 63)] (qS (rdS v (k : Int) f z)) = some (some (0, byt b e k), qS (rdS v (k : Int) f z)) := by1
        rw [if_pos g, b_X12_sums_12, by2, qB_some, psh_some, b_X12_sums_16, if_neg (by omega), b_X12_sums_21, by2, qB_some, psh_some, b_X12_sums_25, if_neg (by omega), b_X12_sums_77]
      · rw [if_neg g, b_X12_sums_77]
    · show qG L xs (dpR d o 5) CX12_product 10 [(2, 63), (0, a), (0, byt b e k), u3] [] _ = _
      rw [b_X12_product_10, rd_18]
      by_cases g : f < 0
      · have nb2 := nb g
        rw [sg_4] at nb2
        rw [if_pos g, b_X12_product_17, if_neg (by omega), b_X12_product_23, if_neg (by omega), b_X12_product_29, if_neg (by omega), b_X12_product_94]
      · rw [if_neg g, b_X12_product_94]
end OTD
