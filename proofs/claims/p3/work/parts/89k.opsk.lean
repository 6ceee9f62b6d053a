/-! yards(): the reference's turn, and both -/
section OK3
variable {L : Nat} {xs : Nat → Int} {d : Nat} {u v w : Nat → Nat → Int} {k n : Nat}
theorem yr_set {x1 x2 x3 x4 : Int} {y j q : Nat} {z : Int} (hC : 0 ≤ u 63 5 ∧ u 63 5 ≤ 40) (hy : y < 30) (hj : j + q < 360) (hq : q < 3) (hz : u 88 (j + q) = z) (hz2 : -128 ≤ z ∧ z ≤ 127) : qG L xs (d + 1) CX12_yards 219 [(2, 63), (0, x1), (0, x2), (0, x3), (0, x4), (0, 1), (0, (y : Int)), (0, (j : Int)), (0, (q : Int))] [] (qS u) = qG L xs (d + 1) CX12_yards 219 [(2, 63), (0, x1), (0, x2), (0, x3), (0, x4), (0, 1), (0, (y : Int)), (0, (j : Int)), (0, (q : Int) + 1)] [] (qS (chM u (atM q y) z)) := by
  have ea : atM q y = 30 * q + y := if_pos hq
  conv => lhs; rw [b_X12_yards_219, if_pos (by omega), b_X12_yards_225, if_neg (by omega), b_X12_yards_230, w32_id (z := (j : Int) + (q : Int)) (by omega) (by omega), if_pos (by omega), show ((j : Int) + (q : Int)).toNat = j + q by omega, hz, w32_id (z := 30 * (q : Int)) (by omega) (by omega), w32_id (z := 30 * (q : Int) + (y : Int)) (by omega) (by omega), show 30 * (q : Int) + (y : Int) = ((atM q y : Nat) : Int) by omega, b_X12_yards_249, w32_id (z := z) (by omega) (by omega), mr_becomes hC (by omega), qB_some, psh_some, b_X12_yards_253, w32_id (by omega) (by omega)]
/-- a turn of the reference -/
theorem mr_yard {K i t y : Nat} {I x3 : Int} (u6 u7 u8 : pm_V) (hf : yfM u v) (hS : rlS v) (hB : v 49 2 ≤ 50) (hK : K < 6) (h0 : v 53 K = 0) (hI : 0 ≤ I ∧ I < 2147483648) (ht : (t : Int) < x3.tmod 100) (ht2 : t < 30) (hy : (x3.tdiv 100) + t = (y : Int)) (hx : 0 ≤ x3 ∧ x3 < 2147483648) : qG L xs (d + 3) CX12_yards 91 [(2, 63), (0, (K : Int)), (0, I), (0, x3), (0, (t : Int)), (0, 1), u6, u7, u8] [] (qS u) = if (y < 30 ∧ I + 3 * t + 3 ≤ szS v K) ∧ okY (v (57 + K)) (I + 3 * t).toNat then qG L xs (d + 3) CX12_yards 91 [(2, 63), (0, (K : Int)), (0, I), (0, x3), (0, (t : Int) + 1), (0, 1), (0, (y : Int)), (0, 60 * K + (I + 3 * t)), (0, 3)] [] (qS (chM3 u y (v (57 + K)) (I + 3 * t).toNat)) else some (some (0, (t : Int)), qS u) := by
  obtain ⟨m1, m2, m3⟩ := mS_at hS hB K hK
  have m4 := m3 (by omega)
  have hz := szS_in hS K hK
  have e87 : u 87 K = szS v K := (hf.1 87 K (by omega) (by omega) (by omega)).trans m4.2
  have e88 : ∀ i, i < 60 → u 88 (60 * K + i) = v (57 + K) i ∧ -128 ≤ v (57 + K) i ∧ v (57 + K) i ≤ 127 := fun i hi => by
    have a := ((hS K hK).2.2.2 (by omega)).2.2.2 i hi
    exact ⟨(hf.1 88 _ (by omega) (by omega) (by omega)).trans a.1, a.2.1 h0⟩
  have en : ∀ x6 x7 : Int, qG L xs (d + 3) CX12_yards 213 [(2, 63), (0, (K : Int)), (0, I), (0, x3), (0, (t : Int)), (0, 0), (0, x6), (0, x7), u8] [] (qS u) = some (some (0, (t : Int)), qS u) := fun x6 x7 => by
    rw [b_X12_yards_213, b_X12_yards_214, b_X12_yards_219, if_pos (by omega), b_X12_yards_225, if_pos rfl, b_X12_yards_260, if_pos rfl, b_X12_yards_271, b_X12_yards_272, w32_id (by omega) (by omega), b_X12_yards_91, if_pos rfl, b_X12_yards_278, show (t : Int) + 0 = t by omega]
  have en1 : ∀ x6 x7 : Int, qG L xs (d + 3) CX12_yards 213 [(2, 63), (0, (K : Int)), (0, I), (0, x3), (0, (t : Int)), (0, 1), (0, x6), (0, x7), u8] [] (qS u) = some (some (0, (t : Int)), qS u) := fun x6 x7 => by
    rw [b_X12_yards_213, b_X12_yards_214, b_X12_yards_219, if_pos (by omega), b_X12_yards_225, if_pos rfl, b_X12_yards_260, if_pos rfl, b_X12_yards_271, b_X12_yards_272, w32_id (by omega) (by omega), b_X12_yards_91, if_pos rfl, b_X12_yards_278, show (t : Int) + 0 = t by omega]
  have td : 0 ≤ x3.tdiv 100 ∧ x3.tdiv 100 < 21474837 := by
    rw [td_pos 100 hx.1]
    omega
  conv => lhs; rw [b_X12_yards_91, if_neg (by omega), b_X12_yards_96, if_pos ht, b_X12_yards_105, if_pos (by omega), Int.toNat_natCast, e87, w32_id (z := x3.tdiv 100) (by omega) (by omega), w32_id (z := x3.tdiv 100 + (t : Int)) (by omega) (by omega), hy, b_X12_yards_121, w32_id (z := szS v K - 3) (by omega) (by omega), w32_id (z := 3 * (t : Int)) (by omega) (by omega), w32_id (by omega) (by omega)]
  by_cases g1 : I + 3 * t + 3 ≤ szS v K
  · rw [if_neg (by omega), b_X12_yards_131]
    by_cases g2 : y < 30
    · obtain ⟨j, hj⟩ : ∃ j : Nat, I + 3 * t = (j : Int) := ⟨(I + 3 * t).toNat, by omega⟩
      rw [if_pos (by omega), b_X12_yards_138, b_X12_yards_143, if_neg (by decide), w32_id (z := 60 * (K : Int)) (by omega) (by omega), w32_id (z := 60 * (K : Int) + I) (by omega) (by omega), w32_id (z := 3 * (t : Int)) (by omega) (by omega), w32_id (by omega) (by omega), hj, Int.toNat_natCast, show 60 * (K : Int) + I + 3 * (t : Int) = ((60 * K + j : Nat) : Int) by omega, show 60 * (K : Int) + (j : Int) = ((60 * K + j : Nat) : Int) by omega]
      have v0 := e88 j (by omega)
      have v1 := e88 (j + 1) (by omega)
      have v2 := e88 (j + 2) (by omega)
      rw [b_X12_yards_163, if_pos (by omega), Int.toNat_natCast, v0.1, b_X12_yards_171]
      have ma := mr_may (L := L) (xs := xs) (d := d + 1) (v := u) (k := 0) (by omega) (v (57 + K) j)
      have mb := mr_may (L := L) (xs := xs) (d := d + 1) (v := u) (k := 1) (by omega) (v (57 + K) (j + 1))
      have mc := mr_may (L := L) (xs := xs) (d := d + 1) (v := u) (k := 2) (by omega) (v (57 + K) (j + 2))
      rw [show ((0 : Nat) : Int) = 0 from rfl] at ma
      rw [show ((1 : Nat) : Int) = 1 from rfl] at mb
      rw [show ((2 : Nat) : Int) = 2 from rfl] at mc
      rw [ma, qB_some, psh_some, b_X12_yards_174, zb_0]
      by_cases o0 : lo 0 ≤ v (57 + K) j ∧ v (57 + K) j ≤ hi 0
      · rw [if_pos o0, b_X12_yards_177, w32_id (by omega) (by omega), if_pos (by omega), show (((60 * K + j : Nat) : Int) + 1).toNat = 60 * K + (j + 1) by omega, v1.1, b_X12_yards_187, mb, qB_some, psh_some, b_X12_yards_190, zb_0]
        by_cases o1 : lo 1 ≤ v (57 + K) (j + 1) ∧ v (57 + K) (j + 1) ≤ hi 1
        · rw [if_pos o1, b_X12_yards_193, w32_id (by omega) (by omega), if_pos (by omega), show (((60 * K + j : Nat) : Int) + 2).toNat = 60 * K + (j + 2) by omega, v2.1, b_X12_yards_203, mc, qB_some, psh_some, b_X12_yards_206, zb_0]
          by_cases o2 : lo 2 ≤ v (57 + K) (j + 2) ∧ v (57 + K) (j + 2) ≤ hi 2
          · rw [if_pos o2, if_pos ⟨⟨g2, by omega⟩, o0, o1, o2⟩, b_X12_yards_209, b_X12_yards_214]
            have f1 := yfM_ch (a := atM 0 y) hf (v (57 + K) j)
            have f2 := yfM_ch (a := atM 1 y) f1 (v (57 + K) (j + 1))
            have s0 := yr_set (L := L) (xs := xs) (d := d + 2) (x1 := (K : Int)) (x2 := I) (x3 := x3) (x4 := (t : Int)) (y := y) (j := 60 * K + j) (q := 0) hf.2 g2 (by omega) (by omega) (show u 88 (60 * K + j + 0) = _ from v0.1) v0.2
            have s1 := yr_set (L := L) (xs := xs) (d := d + 2) (x1 := (K : Int)) (x2 := I) (x3 := x3) (x4 := (t : Int)) (y := y) (j := 60 * K + j) (q := 1) f1.2 g2 (by omega) (by omega) (((f1.1 88 _ (by omega) (by omega) (by omega)).trans (hf.1 88 _ (by omega) (by omega) (by omega)).symm).trans v1.1) v1.2
            have s2 := yr_set (L := L) (xs := xs) (d := d + 2) (x1 := (K : Int)) (x2 := I) (x3 := x3) (x4 := (t : Int)) (y := y) (j := 60 * K + j) (q := 2) f2.2 g2 (by omega) (by omega) (((f2.1 88 _ (by omega) (by omega) (by omega)).trans (hf.1 88 _ (by omega) (by omega) (by omega)).symm).trans v2.1) v2.2
            refine Eq.trans s0 (Eq.trans s1 (Eq.trans s2 ?_))
            rw [b_X12_yards_219, if_neg (by omega), b_X12_yards_260, if_neg (by decide), b_X12_yards_267, b_X12_yards_272, w32_id (by omega) (by omega)]
            rfl
          · rw [if_neg o2, en1, if_neg (fun q => o2 q.2.2.2)]
        · rw [if_neg o1, en1, if_neg (fun q => o1 q.2.2.1)]
      · rw [if_neg o0, en1, if_neg (fun q => o0 q.2.1)]
    · rw [if_neg (by omega), b_X12_yards_142, b_X12_yards_143, if_pos rfl, en, if_neg (fun q => g2 q.1.1)]
  · rw [if_pos (by omega), b_X12_yards_142, b_X12_yards_143, if_pos rfl, en, if_neg (fun q => g1 q.1.2)]
/-- BOTH loops, side by side -/
theorem yd_both {K : Nat} {I x3 : Int} (hR : rlR v) (hK : K < 6) (h0 : v 53 K = 0) (hI : 0 ≤ I ∧ I < 2147483648) (hx : 0 ≤ x3 ∧ x3 < 2147483648) : ∀ (m t : Nat) (u : Nat → Nat → Int), yfC u v → t ≤ 30 → x3.tmod 100 ≤ 30 → (t : Int) + m = x3.tmod 100 → ∃ r u', qG L xs 999 CX11_yards 76 [(2, 0), (0, (K : Int)), (0, I), (0, x3), (0, x3.tdiv 100), (0, x3.tmod 100), (0, (t : Int))] [] (qS u) = some (some (0, r), qS u') ∧ yfC u' v ∧ ∀ w, yfM w v → rlR (mix u w) → ∀ u6 u7 u8 : pm_V, ∃ w', qG L xs 999 CX12_yards 91 [(2, 63), (0, (K : Int)), (0, I), (0, x3), (0, (t : Int)), (0, 1), u6, u7, u8] [] (qS w) = some (some (0, r), qS w') ∧ rlR (mix u' w') ∧ ∀ c j, c < 63 → w' c j = w c j
  | 0, t, u, hf, ht, hx2, hm => by
    refine ⟨(t : Int), u, ?_, hf, fun w hw hr u6 u7 u8 => ⟨w, ?_, hr, fun _ _ _ => rfl⟩⟩
    · rw [b_X11_yards_76, if_neg (by omega), b_X11_yards_112]
    · rw [b_X12_yards_91, if_neg (by decide), b_X12_yards_96, if_neg (by omega), b_X12_yards_278]
  | m + 1, t, u, hf, ht, hx2, hm => by
    have td : 0 ≤ x3.tdiv 100 ∧ x3.tdiv 100 < 21474837 := by
      rw [td_pos 100 hx.1]
      omega
    obtain ⟨y, hy⟩ : ∃ y : Nat, x3.tdiv 100 + t = (y : Int) := ⟨(x3.tdiv 100 + t).toNat, by omega⟩
    have hS := hR.2.2.2.2.2.2.2.1
    have hB := hR.2.2.2.2.2.2.1.1.2
    have ct := cr_takeYard (L := L) (xs := xs) (d := 993) (y := y) (i := I + 3 * t) hf hS hK h0 (by omega)
    have e1 : qG L xs 999 CX11_yards 76 [(2, 0), (0, (K : Int)), (0, I), (0, x3), (0, x3.tdiv 100), (0, x3.tmod 100), (0, (t : Int))] [] (qS u) = qB (qE L xs 999 nX11_takeYard [(2, 0), (0, (K : Int)), (1, I + 3 * t), (0, (y : Int))] (qS u)) (fun r σ => qG L xs 999 CX11_yards 103 [(2, 0), (0, (K : Int)), (0, I), (0, x3), (0, x3.tdiv 100), (0, x3.tmod 100), (0, (t : Int))] (pm_psh r []) σ) := by
      rw [b_X11_yards_76, if_pos (by omega), b_X11_yards_83, w64_id (z := 3 * (t : Int)) (by omega) (by omega), w64_id (by omega) (by omega), w32_id (z := x3.tdiv 100 + (t : Int)) (by omega) (by omega), hy]
    rw [e1, ct]
    by_cases g : (y < 30 ∧ 0 ≤ I + 3 * t ∧ I + 3 * t + 3 ≤ szS v K) ∧ okY (v (57 + K)) (I + 3 * t).toNat
    · rw [if_pos g, qB_some, psh_some, b_X11_yards_103, if_neg (by decide), b_X11_yards_106, w32_id (by omega) (by omega)]
      have hf3 : yfC (chC3 u y (v (57 + K)) (I + 3 * t).toNat) v := yfC_ch (yfC_ch (yfC_ch hf (by omega) _) (by omega) _) (by omega) _
      obtain ⟨r, u', q1, q2, q3⟩ := yd_both hR hK h0 hI hx m (t + 1) _ hf3 (by omega) hx2 (by omega)
      rw [show ((t + 1 : Nat) : Int) = (t : Int) + 1 by omega] at q1
      refine ⟨r, u', q1, q2, fun w hw hr u6 u7 u8 => ?_⟩
      have hw3 : yfM (chM3 w y (v (57 + K)) (I + 3 * t).toNat) v := yfM_ch (yfM_ch (yfM_ch hw _) _) _
      obtain ⟨w', k1, k2, k3⟩ := q3 _ hw3 (rR_ch3 hr g.1.1 g.2) (0, (y : Int)) (0, 60 * (K : Int) + (I + 3 * t)) (0, 3)
      rw [show ((t + 1 : Nat) : Int) = (t : Int) + 1 by omega] at k1
      refine ⟨w', ?_, k2, fun c j hc => (k3 c j hc).trans ?_⟩
      · rw [← k1, mr_yard (i := 0) (d := 996) u6 u7 u8 hw hS hB hK h0 hI (by omega) (by omega) hy hx, if_pos ⟨⟨g.1.1, g.1.2.2⟩, g.2⟩]
      · unfold chM3
        rw [chM_ne _ (by omega) (by omega) (by omega), chM_ne _ (by omega) (by omega) (by omega), chM_ne _ (by omega) (by omega) (by omega)]
    · rw [if_neg g, qB_some, psh_some, b_X11_yards_103, if_pos rfl, b_X11_yards_112]
      refine ⟨(t : Int), u, rfl, hf, fun w hw hr u6 u7 u8 => ⟨w, ?_, hr, fun _ _ _ => rfl⟩⟩
      rw [mr_yard (i := 0) (d := 996) u6 u7 u8 hw hS hB hK h0 hI (by omega) (by omega) hy hx, if_neg (fun q => g ⟨⟨q.1.1, by omega, q.1.2⟩, q.2⟩)]
end OK3
