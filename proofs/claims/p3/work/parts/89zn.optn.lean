/-! THE LAW's minutes, on both sides alike; the ways keep the relation -/
section OTN
variable {L : Nat} {xs : Nat → Int} {d : Nat} {v w : Nat → Nat → Int}
/-- what the names are worth -/
def lwN (v : Nat → Nat → Int) (y s u : Nat) : Nat → Int := fun i => if i = 0 then v 3 y else if i = 1 then v 4 y else if i = 2 then v 5 y else if i = 3 then (s : Int) else if i = 4 then (y : Int) else (u : Int)
def lwC (v : Nat → Nat → Int) (y s u : Nat) : Int := pm_max 1 (pm_min 99 (if v 63 14 < 0 then 1 else vS (v 72) (v 63 14).toNat (lwN v y s u) 130 0 (-1) 0 0))
theorem lwC_b (y s u : Nat) : 1 ≤ lwC v y s u ∧ lwC v y s u ≤ 99 := by
  unfold lwC pm_max pm_min
  split <;> split <;> omega
theorem lw_cl (z : Int) : pm_max 1 (pm_min 99 z) = if z < 1 then 1 else if 99 < z then 99 else z := by
  unfold pm_max pm_min
  by_cases z1 : z < 1
  · rw [if_pos (show z < 99 by omega), if_neg (by omega), if_pos z1]
  · rw [if_neg z1]
    by_cases z2 : 99 < z
    · rw [if_neg (show ¬ z < 99 by omega), if_pos z2]
      rfl
    · rw [if_neg z2]
      by_cases z3 : z < 99
      · rw [if_pos z3]
        by_cases z4 : 1 < z
        · rw [if_pos z4]
        · rw [if_neg z4]
          omega
      · rw [if_neg z3]
        show (99 : Int) = z
        omega
theorem i6 {i : Nat} (h : i < 6) : i = 0 ∨ i = 1 ∨ i = 2 ∨ i = 3 ∨ i = 4 ∨ i = 5 := by omega
/-- the class -/
theorem k_minutes (hT : rlT v) (hL : rlL v) (hg : gW v w) {y s u : Nat} (hy : y < 30) : ∃ w', qE L xs (d + 8) nX5_minutes [(2, 23), (2, 1), (0, (y : Int)), (0, (s : Int)), (0, (u : Int))] (qS w) = some (some (0, lwC v y s u), qS w') ∧ fM w w' := by
  have ht := hT.2.2.2
  have g3 : w 3 = v 3 := hg.1 3 (by omega)
  have g4 : w 4 = v 4 := hg.1 4 (by omega)
  have g5 : w 5 = v 5 := hg.1 5 (by omega)
  rw [show d + 8 = d + 7 + 1 from rfl, e_X5_minutes, b_X5_minutes_0, hg.2 5 (by omega)]
  rcases hL with ⟨q1, q2⟩ | ⟨n, q1, q2, q3, q4, q5, q6, q7⟩
  · refine ⟨w, ?_, fun _ _ _ _ => rfl, fun _ _ => rfl⟩
    have : lwC v y s u = 1 := by
      unfold lwC
      rw [if_pos (by omega)]
      rfl
    rw [if_pos q1, b_X5_minutes_7, this]
  · obtain ⟨l, e1, e2⟩ := txS_e (b := v 72) (e := n) 129 0 (-1)
    have a := txS_le (b := v 72) (e := n) 130 0 (-1) (Nat.zero_le _)
    have len : (txS (v 72) n 130 0 (-1)).1.length = l.length + 1 := by
      rw [e1, List.length_append]
      rfl
    obtain ⟨D, hD, hD1⟩ : ∃ D : Nat, (D = 25 ∨ D = 26) ∧ v 23 1 = .ofNat D := by
      rcases ht with ⟨t1, t2⟩ | ⟨t1, t2⟩
      · exact ⟨25, Or.inl rfl, t1⟩
      · exact ⟨26, Or.inr rfl, t1⟩
    have gD : w D = v D := hg.1 D (by omega)
    have v1 : ∀ u, qE L xs (d + 7) nX9_value [(2, 1), (0, 0), (0, (y : Int))] (qS u) = some (some (0, u 3 y), qS u) := fun u => c_value_in (d := d + 4) 0 (y : Int) (by omega) (by omega) (by omega) (by show (y : Int) < 30; omega) (by omega)
    have v2 : ∀ u, qE L xs (d + 7) nX9_value [(2, 1), (0, 1), (0, (y : Int))] (qS u) = some (some (0, u 4 y), qS u) := fun u => c_value_in (d := d + 4) 1 (y : Int) (by omega) (by omega) (by omega) (by show (y : Int) < 30; omega) (by omega)
    have v3 : ∀ u, qE L xs (d + 7) nX9_value [(2, 1), (0, 2), (0, (y : Int))] (qS u) = some (some (0, u 5 y), qS u) := fun u => c_value_in (d := d + 4) 2 (y : Int) (by omega) (by omega) (by omega) (by show (y : Int) < 30; omega) (by omega)
    obtain ⟨x, hx⟩ : ∃ x, x = pm_up (pm_up (pm_up (pm_up (pm_up (pm_up w 27 0 (w 3 y)) 27 1 (w 4 y)) 27 2 (w 5 y)) 27 3 (s : Int)) 27 4 (y : Int)) 27 5 (u : Int) := ⟨_, rfl⟩
    have xo : ∀ c j, c ≠ 27 → x c j = w c j := fun c j q => by
      rw [hx, up_ne (by omega), up_ne (by omega), up_ne (by omega), up_ne (by omega), up_ne (by omega), up_ne (by omega)]
    have xn : ∀ i, i < 6 → x 27 i = lwN v y s u i := fun i hi => by
      rcases i6 hi with rfl | rfl | rfl | rfl | rfl | rfl
      · rw [hx, up_ne (by omega), up_ne (by omega), up_ne (by omega), up_ne (by omega), up_ne (by omega), up_eq, g3]
        rfl
      · rw [hx, up_ne (by omega), up_ne (by omega), up_ne (by omega), up_ne (by omega), up_eq, g4]
        rfl
      · rw [hx, up_ne (by omega), up_ne (by omega), up_ne (by omega), up_eq, g5]
        rfl
      · rw [hx, up_ne (by omega), up_ne (by omega), up_eq]
        rfl
      · rw [hx, up_ne (by omega), up_eq]
        rfl
      · rw [hx, up_eq]
        rfl
    obtain ⟨w', p1, p2⟩ := k_workOut (L := L) (xs := xs) (d := d + 1) (v := x) (nm := lwN v y s u) xn hD (by rw [xo 23 1 (by omega), hg.2 1 (by omega)]; exact hD1) (l := l) (by rw [xo 23 5 (by omega), hg.2 5 (by omega), q6, e1]) (by rw [← e1, len]; omega) (fun j z hz => by
      rw [xo D j (by omega), gD]
      rw [← e1] at hz
      have := q7 j z hz
      rw [hD1] at this
      exact this) e2
    have val : cwk (lwN v y s u) (l ++ [-59]) [] 0 = vS (v 72) n (lwN v y s u) 130 0 (-1) 0 0 := by
      rw [← e1]
      exact cwk_all q1 130 0 (-1) [] (Nat.zero_le _) q4
    have lw : lwC v y s u = pm_max 1 (pm_min 99 (cwk (lwN v y s u) (l ++ [-59]) [] 0)) := by
      unfold lwC
      rw [if_neg (by omega), q2, Int.toNat_natCast, val]
    have n5 : ¬ v 23 5 = 0 := by omega
    refine ⟨w', ?_, fun c a1 a2 a3 => ?_, fun k hk => ?_⟩
    · rw [if_neg n5, b_X5_minutes_9, v1, qB_some, psh_some, b_X5_minutes_20, if_pos (by decide), b_X5_minutes_21, v2, qB_some, psh_some, b_X5_minutes_32, if_pos (by decide), b_X5_minutes_33, v3, qB_some, psh_some, b_X5_minutes_44, if_pos (by decide), b_X5_minutes_45, b_X5_minutes_52, b_X5_minutes_59, b_X5_minutes_67]
      rw [up_ne (a := 4) (by omega), up_ne (a := 5) (by omega), up_ne (a := 5) (by omega)]
      rw [show pm_up (pm_up (pm_up (pm_up (pm_up (pm_up w 27 (Int.toNat 0) (w 3 y)) 27 (Int.toNat 1) (w 4 y)) 27 (Int.toNat 2) (w 5 y)) 27 3 (s : Int)) 27 4 (y : Int)) 27 5 (u : Int) = x from hx.symm, show d + 7 = d + 1 + 6 from rfl, p1, qB_some, psh_some, b_X5_minutes_74, lw]
    · rw [p2.1 c a1 a2 a3]
      exact funext (fun k => xo c k a2)
    · rw [p2.2 k hk]
      exact xo 23 k (by omega)
/-- the reference -/
theorem m_walksFor (hW : rlW v) (hL : rlL v) (hg : gN v w) {y s u : Nat} (hy : y < 30) : ∃ w', qE L xs (d + 90) nX12_walksFor [(2, 63), (0, (y : Int)), (0, (s : Int)), (0, (u : Int))] (qS w) = some (some (0, lwC v y s u), qS w') ∧ fK w w' := by
  have g64 : w 64 = v 64 := hg.1 64 (by omega)
  have g72 : w 72 = v 72 := hg.1 72 (by omega)
  have g14 : w 63 14 = v 63 14 := hg.2 14 (by omega)
  rw [show d + 90 = d + 89 + 1 from rfl, e_X12_walksFor, b_X12_walksFor_0, g14]
  rcases hL with ⟨q1, q2⟩ | ⟨n, q1, q2, q3, q4, q5, q6, q7⟩
  · refine ⟨w, ?_, fun _ _ _ => rfl, fun _ _ => rfl⟩
    have : lwC v y s u = 1 := by
      unfold lwC
      rw [if_pos (by omega)]
      rfl
    rw [if_pos (by omega), b_X12_walksFor_7, this]
  · have v1 : ∀ z, z 64 = v 64 → qE L xs (d + 89) nX12_thickOf [(2, 63), (0, (y : Int))] (qS z) = some (some (0, v 3 y), qS z) := fun z hz => by
      rw [show d + 89 = d + 88 + 1 from rfl, e_X12_thickOf, b_X12_thickOf_0, if_pos (by omega), Int.toNat_natCast, hz, rM_t hW y hy, b_X12_thickOf_6]
    have v2 : ∀ z, z 64 = v 64 → qE L xs (d + 89) nX12_warmOf [(2, 63), (0, (y : Int))] (qS z) = some (some (0, v 4 y), qS z) := fun z hz => by
      rw [show d + 89 = d + 88 + 1 from rfl, e_X12_warmOf, b_X12_warmOf_0, w32_id (z := 30 + (y : Int)) (by omega) (by omega), if_pos (by omega), show (30 + (y : Int)).toNat = 30 + y by omega, hz, rM_w hW y hy, b_X12_warmOf_9]
    have v3 : ∀ z, z 64 = v 64 → qE L xs (d + 89) nX12_ownerOf [(2, 63), (0, (y : Int))] (qS z) = some (some (0, v 5 y), qS z) := fun z hz => by
      rw [show d + 89 = d + 88 + 1 from rfl, e_X12_ownerOf, b_X12_ownerOf_0, w32_id (z := 60 + (y : Int)) (by omega) (by omega), if_pos (by omega), show (60 + (y : Int)).toNat = 60 + y by omega, hz, rM_o hW y hy, b_X12_ownerOf_9]
    obtain ⟨x, hx⟩ : ∃ x, x = pm_up (pm_up (pm_up (pm_up (pm_up (pm_up w 73 0 (v 3 y)) 73 1 (v 4 y)) 73 2 (v 5 y)) 73 3 (s : Int)) 73 4 (y : Int)) 73 5 (u : Int) := ⟨_, rfl⟩
    have xo : ∀ c j, c ≠ 73 → x c j = w c j := fun c j q => by
      rw [hx, up_ne (by omega), up_ne (by omega), up_ne (by omega), up_ne (by omega), up_ne (by omega), up_ne (by omega)]
    have xn : ∀ i, i < 6 → x 73 i = lwN v y s u i := fun i hi => by
      rcases i6 hi with rfl | rfl | rfl | rfl | rfl | rfl
      · rw [hx, up_ne (by omega), up_ne (by omega), up_ne (by omega), up_ne (by omega), up_ne (by omega), up_eq]
        rfl
      · rw [hx, up_ne (by omega), up_ne (by omega), up_ne (by omega), up_ne (by omega), up_eq]
        rfl
      · rw [hx, up_ne (by omega), up_ne (by omega), up_ne (by omega), up_eq]
        rfl
      · rw [hx, up_ne (by omega), up_ne (by omega), up_eq]
        rfl
      · rw [hx, up_ne (by omega), up_eq]
        rfl
      · rw [hx, up_eq]
        rfl
    have x14 : x 63 14 = (n : Int) := by rw [xo 63 14 (by omega), g14, q2]
    have rb : rdB (rdT x 0 n) (v 72) n := by
      refine ⟨up_eq _ _ _ _, q1, q3, Or.inr ⟨?_, fun i hi => ?_⟩⟩
      · unfold rdT
        rw [up_ne (by omega), up_eq]
      · unfold rdT
        rw [up_ne (by omega), up_ne (by omega), xo 72 i (by omega), g72]
    obtain ⟨o', p⟩ := mr_workOut (L := L) (xs := xs) (v := x) (nm := lwN v y s u) rb xn (d + 43)
    rw [if_neg (fun t => by have := t.2; omega)] at p
    have lw : lwC v y s u = pm_max 1 (pm_min 99 (vS (v 72) n (lwN v y s u) 130 0 (-1) 0 0)) := by
      unfold lwC
      rw [if_neg (by omega), q2, Int.toNat_natCast]
    refine ⟨rdS (rdT x 0 n) ((txS (v 72) n 130 0 (-1)).2.1 : Int) (if (txS (v 72) n 130 0 (-1)).2.2 < 0 ∧ (txS (v 72) n 130 0 (-1)).2.1 < n then ((txS (v 72) n 130 0 (-1)).2.1 : Int) else (txS (v 72) n 130 0 (-1)).2.2) o', ?_, fun c a1 a2 => ?_, fun k hk => ?_⟩
    · have h64 : ∀ i z, pm_up w 73 i z 64 = v 64 := fun i z => by
        rw [← g64]
        exact funext (fun k => up_ne (by omega))
      rw [if_neg (by omega), b_X12_walksFor_9, v1 w g64, qB_some, psh_some, b_X12_walksFor_19, if_pos (by decide), b_X12_walksFor_20, v2 _ (h64 _ _), qB_some, psh_some, b_X12_walksFor_30, if_pos (by decide), b_X12_walksFor_31, v3 _ (by rw [← h64 0 0]; exact funext (fun k => by rw [up_ne (by omega), up_ne (by omega), up_ne (by omega)])), qB_some, psh_some, b_X12_walksFor_41, if_pos (by decide), b_X12_walksFor_42, b_X12_walksFor_49, b_X12_walksFor_56]
      rw [show pm_up (pm_up (pm_up (pm_up (pm_up (pm_up w 73 (Int.toNat 0) (v 3 y)) 73 (Int.toNat 1) (v 4 y)) 73 (Int.toNat 2) (v 5 y)) 73 3 (s : Int)) 73 4 (y : Int)) 73 5 (u : Int) = x from hx.symm, b_X12_walksFor_63, x14, show d + 89 = d + 43 + 46 from rfl, p, qB_some, psh_some, b_X12_walksFor_72, lw]
      generalize vS (v 72) n (lwN v y s u) 130 0 (-1) 0 0 = z
      rw [lw_cl]
      by_cases z1 : z < 1
      · rw [if_pos z1, if_pos z1, b_X12_walksFor_80, b_X12_walksFor_98]
      · rw [if_neg z1, if_neg z1, b_X12_walksFor_84]
        by_cases z2 : 99 < z
        · rw [if_pos z2, if_pos z2, b_X12_walksFor_91, b_X12_walksFor_98]
        · rw [if_neg z2, if_neg z2, b_X12_walksFor_96, b_X12_walksFor_98]
    · funext j
      rw [rd_ne (by omega)]
      unfold rdT
      rw [up_ne (by omega), up_ne (by omega), xo c j a2]
    · rw [rd_ne (by omega)]
      unfold rdT
      rw [up_ne (by omega), up_ne (by omega), xo 63 k (by omega)]
theorem rl_Wz (h : rlR v) : Wz L xs v (lwC v) := ⟨rW_WW h.1, rW_CW h.1, ⟨lwC_b, fun w hw d y s u hy _ _ => k_minutes h.2.2.1 h.2.2.2.1 hw hy⟩, ⟨lwC_b, fun w hw d y s u hy _ _ => m_walksFor h.1 h.2.2.2.1 hw hy⟩, h.2.2.2.2.2.2.2.2.1⟩
theorem opr_way (h : rlR v) (y w : Int) (hy : y < 2147483648) : opR L xs v nX11_way nX12_way 0 [(0, y), (0, w)] := opR_W h (op_way (rl_Wz h) y w hy)
theorem opr_far (h : rlR v) (a w : Int) : opR L xs v nX11_far nX12_far 0 [(0, a), (0, w)] := opR_W h (op_far (rl_Wz h) a w)
theorem opr_reach (h : rlR v) (a w : Int) (hw : w < 2147483648) : opR L xs v nX11_reach nX12_reach 0 [(0, a), (0, w)] := opR_W h (op_reach (rl_Wz h) a w hw)
theorem opr_widest (h : rlR v) : opR L xs v nX11_widest nX12_widest 0 [] := opR_W h (op_widest (rl_Wz h))
theorem opr_dig (h : rlR v) (w : Int) : opR L xs v nX11_dig nX12_dig 0 [(0, w)] := opR_W h (op_dig (rl_Wz h) w)
theorem opr_spare (h : rlR v) (y w : Int) (hy : y < 2147483648) : opR L xs v nX11_spare nX12_spare 0 [(0, y), (0, w)] := opR_W h (op_spare (rl_Wz h) y w hy)
theorem opr_drawn (h : rlR v) (a z n w : Int) : opR L xs v nX11_drawn nX12_drawn 0 [(0, a), (0, z), (0, n), (0, w)] := opR_W h (op_drawn (rl_Wz h) a z n w)
end OTN
