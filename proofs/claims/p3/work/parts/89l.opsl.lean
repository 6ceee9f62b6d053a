/-! yards keeps the relation -/
section OL3
variable {L : Nat} {xs : Nat → Int} {d : Nat} {u v w : Nat → Nat → Int} {k n : Nat}
theorem opr_yards (h : rlR v) (a i y : Int) (hi : -2147483648 ≤ i ∧ i < 2147483648) (hy : y < 2147483648) : opR L xs v nX11_yards nX12_yards 0 [(0, a), (0, i), (0, y)] := by
  have hS := h.2.2.2.2.2.2.2.1
  have hB := h.2.2.2.2.2.2.1.1.2
  obtain ⟨c1, c2, c3⟩ := h.2.1
  by_cases y0 : 0 ≤ y
  · have td := td_pos 100 y0
    have tm := tm_pos 100 y0
    have tdr : 0 ≤ y.tdiv 100 ∧ y.tdiv 100 < 21474837 := by omega
    have tmr : 0 ≤ y.tmod 100 ∧ y.tmod 100 < 100 := by omega
    by_cases g : (0 ≤ a ∧ a < 6) ∧ y.tdiv 100 < 30 ∧ 1 ≤ y.tmod 100 ∧ y.tmod 100 ≤ 30
    · obtain ⟨K, rfl⟩ : ∃ K : Nat, a = (K : Int) := ⟨a.toNat, by omega⟩
      have hK : K < 6 := by omega
      obtain ⟨m1, m2, m3⟩ := mS_at hS hB K hK
      have q := hS K hK
      have cb : qE L xs 1000 nX11_yards [(2, 0), (0, (K : Int)), (0, i), (0, y)] (qS v) = qG L xs 999 CX11_yards 45 [(2, 0), (0, (K : Int)), (0, i), (0, y), (0, y.tdiv 100), (0, y.tmod 100), (9, 0)] [] (qS v) := by
        rw [e_X11_yards, b_X11_yards_0, cs_has, qB_some, psh_some, b_X11_yards_16, zb_0, if_pos g.1, b_X11_yards_19, if_neg (by omega), w32_id (by omega) (by omega), b_X11_yards_23, if_pos g.2.1, b_X11_yards_30, if_neg (by omega), b_X11_yards_36, if_neg (by omega)]
      have mb : ∀ w : Nat → Nat → Int, qE L xs 1000 nX12_yards [(2, 63), (0, (K : Int)), (0, i), (0, y)] (qS w) = qG L xs 999 CX12_yards 43 [(2, 63), (0, (K : Int)), (0, i), (0, y), (9, 0), (9, 0), (9, 0), (9, 0), (9, 0)] [] (qS w) := fun w => by
        rw [e_X12_yards, b_X12_yards_0, ms_isShelf, qB_some, psh_some, b_X12_yards_4, zb_0, if_pos g.1, b_X12_yards_7, if_neg (by omega), b_X12_yards_11, w32_id (by omega) (by omega), c_within, qB_some, psh_some, b_X12_yards_23, zb_0, if_pos (by omega), b_X12_yards_26, c_within, qB_some, psh_some, b_X12_yards_38, zb_0, if_pos (by omega)]
      by_cases g1 : v 53 K = -1
      · refine opR_no (r := 0) h ?_ ?_
        · rw [cb, b_X11_yards_45, cr_isEmpty K hK, qB_some, psh_some, b_X11_yards_53, zb_0, if_pos g1, b_X11_yards_56]
        · rw [mb, b_X12_yards_43, if_pos (by omega), Int.toNat_natCast, b_X12_yards_49, if_pos (m1.mpr g1), b_X12_yards_66, if_pos (by omega), Int.toNat_natCast, b_X12_yards_75, if_neg (by have := m1.mpr g1; omega), b_X12_yards_88, b_X12_yards_89, b_X12_yards_91, if_pos rfl, b_X12_yards_278]
      · by_cases g2 : v 53 K = 0
        · have m4 := m3 (by omega)
          have cb2 : qE L xs 1000 nX11_yards [(2, 0), (0, (K : Int)), (0, i), (0, y)] (qS v) = qG L xs 999 CX11_yards 76 [(2, 0), (0, (K : Int)), (0, i), (0, y), (0, y.tdiv 100), (0, y.tmod 100), (0, 0)] [] (qS v) := by
            rw [cb, b_X11_yards_45, cr_isEmpty K hK, qB_some, psh_some, b_X11_yards_53, zb_0, if_neg g1, b_X11_yards_58, cr_holdsRow K hK, qB_some, psh_some, b_X11_yards_67, zb_0, if_pos g2, b_X11_yards_73]
          have mb2 : ∀ w : Nat → Nat → Int, w 86 K = 50 → qE L xs 1000 nX12_yards [(2, 63), (0, (K : Int)), (0, i), (0, y)] (qS w) = qG L xs 999 CX12_yards 80 [(2, 63), (0, (K : Int)), (0, i), (0, y), (0, 0), (9, 0), (9, 0), (9, 0), (9, 0)] [] (qS w) := fun w hw => by
            rw [mb w, b_X12_yards_43, if_pos (by omega), Int.toNat_natCast, b_X12_yards_49, if_neg (by omega), b_X12_yards_52, if_pos (by omega), Int.toNat_natCast, b_X12_yards_58, if_pos hw, b_X12_yards_66, if_pos (by omega), Int.toNat_natCast, b_X12_yards_75, if_pos hw]
          by_cases g3 : 0 ≤ i
          · have fC : yfC v v := ⟨fun _ _ _ _ _ => rfl, by omega⟩
            obtain ⟨r, u', q1, q2, q3⟩ := yd_both (L := L) (xs := xs) (K := K) (I := i) (x3 := y) h hK g2 ⟨g3, hi.2⟩ ⟨y0, hy⟩ (y.tmod 100).toNat 0 v fC (by omega) (by omega) (by omega)
            have o : ∀ c j, 63 ≤ c → u' c j = v c j := fun c j q => q2.1 c j (by omega) (by omega) (by omega)
            obtain ⟨w', k1, k2, k3⟩ := q3 u' ⟨fun c j z1 z2 z3 => o c j z3, by rw [o _ _ (by omega)]; omega⟩ (by rw [mx_out o]; exact h) (9, 0) (9, 0) (9, 0)
            rw [mx_in k3] at k2
            refine ⟨r, u', w', ?_, ?_, k2⟩
            · rw [cb2]
              exact q1
            · rw [mb2 u' (by rw [o _ _ (by omega)]; omega), b_X12_yards_80, if_neg (by omega), b_X12_yards_84, b_X12_yards_89]
              exact k1
          · refine opR_no (r := 0) h ?_ ?_
            · rw [cb2, b_X11_yards_76, if_pos (by omega), b_X11_yards_83, w64_id (z := 3 * 0) (by omega) (by omega), w64_id (by omega) (by omega), w32_id (z := y.tdiv 100 + 0) (by omega) (by omega), e_X11_takeYard, b_X11_takeYard_0, if_pos (by omega), b_X11_takeYard_7, if_pos (by omega), b_X11_takeYard_31, qB_some, psh_some, b_X11_yards_103, if_pos rfl, b_X11_yards_112]
            · rw [mb2 v (by omega), b_X12_yards_80, if_pos (by omega), b_X12_yards_88, b_X12_yards_89, b_X12_yards_91, if_pos rfl, b_X12_yards_278]
        · refine opR_no (r := -12) h ?_ ?_
          · rw [cb, b_X11_yards_45, cr_isEmpty K hK, qB_some, psh_some, b_X11_yards_53, zb_0, if_neg g1, b_X11_yards_58, cr_holdsRow K hK, qB_some, psh_some, b_X11_yards_67, zb_0, if_neg g2, b_X11_yards_70]
          · have : ¬ v 86 K < 0 := fun q => g1 (m1.mp q)
            have : v 86 K ≠ 50 := fun z => by
              by_cases q : 0 ≤ v 53 K
              · have := m3 q
                omega
              · have := m2.mpr (by omega)
                omega
            rw [mb, b_X12_yards_43, if_pos (by omega), Int.toNat_natCast, b_X12_yards_49, if_neg (by omega), b_X12_yards_52, if_pos (by omega), Int.toNat_natCast, b_X12_yards_58, if_neg (by omega), b_X12_yards_63]
    · refine opR_no (r := -1) h ?_ ?_
      · rw [e_X11_yards, b_X11_yards_0, cs_has, qB_some, psh_some, b_X11_yards_16, zb_0]
        by_cases g1 : 0 ≤ a ∧ a < 6
        · rw [if_pos g1, b_X11_yards_19, if_neg (by omega), w32_id (by omega) (by omega), b_X11_yards_23]
          by_cases g2 : y.tdiv 100 < 30
          · rw [if_pos g2, b_X11_yards_30]
            by_cases g3 : y.tmod 100 < 1
            · rw [if_pos g3, b_X11_yards_43]
            · rw [if_neg g3, b_X11_yards_36, if_pos (by omega), b_X11_yards_43]
          · rw [if_neg g2, b_X11_yards_43]
        · rw [if_neg g1, b_X11_yards_43]
      · rw [e_X12_yards, b_X12_yards_0, ms_isShelf, qB_some, psh_some, b_X12_yards_4, zb_0]
        by_cases g1 : 0 ≤ a ∧ a < 6
        · rw [if_pos g1, b_X12_yards_7, if_neg (by omega), b_X12_yards_11, w32_id (by omega) (by omega), c_within, qB_some, psh_some, b_X12_yards_23, zb_0]
          by_cases g2 : y.tdiv 100 < 30
          · rw [if_pos (by omega), b_X12_yards_26, c_within, qB_some, psh_some, b_X12_yards_38, zb_0, if_neg (by omega), b_X12_yards_41]
          · rw [if_neg (by omega), b_X12_yards_41]
        · rw [if_neg g1, b_X12_yards_41]
  · refine opR_no (r := -1) h ?_ ?_
    · rw [e_X11_yards, b_X11_yards_0, cs_has, qB_some, psh_some, b_X11_yards_16, zb_0]
      by_cases g1 : 0 ≤ a ∧ a < 6
      · rw [if_pos g1, b_X11_yards_19, if_pos (by omega), b_X11_yards_43]
      · rw [if_neg g1, b_X11_yards_43]
    · rw [e_X12_yards, b_X12_yards_0, ms_isShelf, qB_some, psh_some, b_X12_yards_4, zb_0]
      by_cases g1 : 0 ≤ a ∧ a < 6
      · rw [if_pos g1, b_X12_yards_7, if_pos (by omega), b_X12_yards_41]
      · rw [if_neg g1, b_X12_yards_41]
end OL3
