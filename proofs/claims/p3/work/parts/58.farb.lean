/-! FAR, REACH: both answer, and alike -/
section FB
variable {L : Nat} {xs : Nat → Int} {d : Nat} {v : Nat → Nat → Int} {c : Nat → Nat → Nat → Int} {P : Nat}
/-- both answer, and alike; only the ways' own numbers change -/
def opW (L : Nat) (xs : Nat → Int) (d : Nat) (v : Nat → Nat → Int) (y1 y2 : Nat) (as : List pm_V) : Prop := ∃ r v1 v2, qE L xs (d + 100) y1 ((2, 0) :: as) (qS v) = some (some (0, r), qS v1) ∧ fW v v1 ∧ qE L xs (d + 100) y2 ((2, 63) :: as) (qS v1) = some (some (0, r), qS v2) ∧ fP v1 v2
theorem opW_no {y1 y2 : Nat} {as : List pm_V} {r : Int} (h1 : qE L xs (d + 100) y1 ((2, 0) :: as) (qS v) = some (some (0, r), qS v)) (h2 : qE L xs (d + 100) y2 ((2, 63) :: as) (qS v) = some (some (0, r), qS v)) : opW L xs d v y1 y2 as := ⟨r, v, v, h1, fW_r v, h2, fP_r v⟩
theorem Rl_lt {x y : Int} (h : Rl x y) : x < 9999 ↔ y < 1000000 := by
  rcases h with ⟨h1, h2, h3⟩ | ⟨h1, h2⟩
  · constructor <;> intro _ <;> omega
  · constructor <;> intro _ <;> omega
theorem Rl_eq {x y : Int} (h : Rl x y) (hx : x < 9999) : y = x := by
  rcases h with ⟨h1, h2, h3⟩ | ⟨h1, h2⟩
  · exact h3
  · omega
theorem Rl_in {x y : Int} (h : Rl x y) : 0 ≤ x ∧ x ≤ 9999 := by
  rcases h with ⟨h1, h2, h3⟩ | ⟨h1, h2⟩
  · omega
  · omega
theorem lp_mfar {m : Nat → Int} (a w : Int) (hY : 2 * v 64 140 = (P : Int)) (hP : P ≤ 60) (hR : ∀ p, p < P → Rl (m p) (v 75 p)) : ∀ (n j : Nat), j + n = P → qG L xs (d + 1) CX12_far 43 [(2, 63), (0, a), (0, w), (0, foM m 9999 j), (0, foW m 9999 a j), (0, foC m 9998 j), (0, (j : Int))] [] (qS v) = qG L xs (d + 1) CX12_far 118 [(2, 63), (0, a), (0, w), (0, foM m 9999 P), (0, foW m 9999 a P), (0, foC m 9998 P), (0, (P : Int))] [] (qS v)
  | 0, j, hj => by
    rw [b_X12_far_43, c_yardMany, qB_some, psh_some, b_X12_far_50, w32_id (by omega) (by omega), if_neg (by omega), show j = P by omega]
  | n + 1, j, hj => by
    have h3 := lp_mfar a w hY hP hR n (j + 1) (by omega)
    rw [show ((j + 1 : Nat) : Int) = (j : Int) + 1 by omega] at h3
    refine Eq.trans ?_ h3
    have hc := foC_in m 9998 j
    have hj2 := hR j (by omega)
    have hi := Rl_in hj2
    have hl := Rl_lt hj2
    have e1 : foM m 9999 (j + 1) = if m j < 9999 ∧ foM m 9999 j < m j then m j else foM m 9999 j := rfl
    have e2 : foW m 9999 a (j + 1) = if m j < 9999 ∧ foM m 9999 j < m j then (j : Int) else foW m 9999 a j := rfl
    have e3 : foC m 9998 (j + 1) = foC m 9998 j + (if 9998 < m j then 0 else 1) := rfl
    rw [e1, e2, e3, b_X12_far_43, c_yardMany, qB_some, psh_some, b_X12_far_50, w32_id (by omega) (by omega), if_pos (by omega), b_X12_far_54, if_pos (by omega), Int.toNat_natCast, b_X12_far_61]
    by_cases g : m j < 9999
    · have hq := Rl_eq hj2 g
      rw [if_pos (hl.mp g), if_neg (show ¬ 9998 < m j by omega), b_X12_far_66, if_pos (by omega), Int.toNat_natCast, hq, b_X12_far_76, w32_id (by omega) (by omega)]
      by_cases g2 : foM m 9999 j < m j
      · rw [if_pos g2, if_pos ⟨g, g2⟩, if_pos ⟨g, g2⟩, b_X12_far_80, b_X12_far_87, if_pos (by omega), Int.toNat_natCast, hq, b_X12_far_96, if_pos g2, b_X12_far_100, if_pos (by omega), Int.toNat_natCast, hq, b_X12_far_107, b_X12_far_111, b_X12_far_112, w32_id (by omega) (by omega)]
      · rw [if_neg g2, if_neg (fun q => g2 q.2), if_neg (fun q => g2 q.2), b_X12_far_85, b_X12_far_87, if_pos (by omega), Int.toNat_natCast, hq, b_X12_far_96, if_neg g2, b_X12_far_110, b_X12_far_111, b_X12_far_112, w32_id (by omega) (by omega)]
    · rw [if_neg (fun q => g (hl.mpr q)), if_neg (fun q => g q.1), if_neg (fun q => g q.1), if_pos (show 9998 < m j by omega), b_X12_far_112, w32_id (by omega) (by omega), Int.add_zero]
theorem op_far (hz : Wz L xs v c) (a w : Int) : opW L xs d v nX11_far nX12_far [(0, a), (0, w)] := by
  have hz0 := hz
  obtain ⟨hW, hC, hM, hN, h5, h6, h7⟩ := hz
  have hW0 := hW
  obtain ⟨q1, -⟩ := hW0
  have k1 := hC.1.1
  obtain ⟨P, hP⟩ : ∃ P : Nat, 2 * v 11 0 = (P : Int) := ⟨(2 * v 11 0).toNat, by omega⟩
  by_cases g : (0 ≤ a ∧ a < 2 * v 11 0) ∧ 0 ≤ w ∧ w ≤ 2
  · obtain ⟨s, rfl⟩ : ∃ s : Nat, a = (s : Int) := ⟨a.toNat, by omega⟩
    have hs : s < P := by omega
    obtain ⟨v1, v2, S, e1, e2, e3, e4, e5⟩ := c_ways (L := L) (xs := xs) (d := d + 89) hW hM hP hs
    have hz2 := Wz_W e3 hz0
    have hP2 : 2 * v2 11 0 = (P : Int) := by rw [fW_c e3 (c := 11) (by omega)]; exact hP
    have k2 : 2 * v2 64 140 = (P : Int) := by rw [hz2.2.1.1.1]; exact hP2
    obtain ⟨v3, v4, e6, e7, e8, e9⟩ := m_ways (L := L) (xs := xs) (d := d + 7) hz2 hP2 hs
    rw [SG_W e3] at e9
    have hR : ∀ p, p < P → Rl (v2 34 p) (v4 75 p) := fun p hp => Lst_Rl (e5 p hp) (e9 p hp)
    have hin := foW_in (w0 := (s : Int)) (m := v2 34) (P := P) (fun p hp => Or.inl (Rl_in (hR p hp)).1) P (Nat.le_refl P)
    have hs0 : v2 34 s = 0 := by
      rcases e5 s hs with ⟨x1, x2, x3, x4⟩ | ⟨x1, x2⟩
      · have := x4 0 0 (Wk_0 s)
        omega
      · exact absurd (Wk_0 s) (x2 0 0)
    have hmost : 0 ≤ foM (v2 34) 9999 P ∧ 0 ≤ foW (v2 34) 9999 (s : Int) P ∧ foW (v2 34) 9999 (s : Int) P < (P : Int) ∧ v2 34 (foW (v2 34) 9999 (s : Int) P).toNat = foM (v2 34) 9999 P ∧ ∀ w1, foW (v2 34) 9999 w1 P = foW (v2 34) 9999 (s : Int) P := by
      rcases hin with ⟨-, -, x⟩ | x
      · exact absurd (by omega) (x s hs)
      · exact x
    obtain ⟨y1, y2, y3, y4, y5⟩ := hmost
    have h9 := e4.2.2.1
    have l1 := lp_mfar (L := L) (xs := xs) (d := d + 98) (v := v4) (m := v2 34) (P := P) (s : Int) w (by rw [fN_c e8.1 (c := 64) (by omega)]; exact k2) (by omega) hR P 0 (by omega)
    refine ⟨if w = 2 then foC (v2 34) 9998 P else if w = 0 then foM (v2 34) 9999 P else foW (v2 34) 9999 (s : Int) P, v2, v4, ?_, e3, ?_, e8⟩
    · rw [e_X11_far, b_X11_far_0, c_hasPlace (by omega) (by omega), qB_some, psh_some, b_X11_far_8, zb_0, if_pos g.1, b_X11_far_11, if_neg (by omega), b_X11_far_15, if_neg (by omega), b_X11_far_22, e1, qB_some, psh_none, b_X11_far_37, e2, qB_some, psh_none, b_X11_far_46]
      by_cases w2 : w = 2
      · rw [if_pos w2, if_pos w2, b_X11_far_51, c_count 9998 rfl h9 (by omega), qB_some, psh_some, b_X11_far_61]
      · rw [if_neg w2, if_neg w2, b_X11_far_62, c_farthest rfl h9 (by omega), qB_some, psh_some, b_X11_far_69, y5 (-1)]
        by_cases w0 : w = 0
        · obtain ⟨f, hf⟩ : ∃ f : Nat, foW (v2 34) 9999 (s : Int) P = (f : Int) := ⟨(foW (v2 34) 9999 (s : Int) P).toNat, by omega⟩
          rw [hf, Int.toNat_natCast] at y4
          rw [if_pos w0, if_pos w0, b_X11_far_74, hf, c_minutes e4 (by omega), qB_some, psh_some, b_X11_far_82, b_X11_far_86, y4]
        · rw [if_neg w0, if_neg w0, b_X11_far_85, b_X11_far_86]
    · rw [e_X12_far, b_X12_far_0, c_isPlace (by omega) (by omega), qB_some, psh_some, b_X12_far_6, zb_0, if_pos (by omega), b_X12_far_9, c_within, qB_some, psh_some, b_X12_far_18, zb_0, if_pos (by omega), b_X12_far_23, e6, qB_some, psh_none, b_X12_far_27, e7, qB_some, psh_none, b_X12_far_32]
      refine Eq.trans l1 ?_
      rw [b_X12_far_118]
      by_cases w0 : w = 0
      · rw [if_pos w0, if_neg (by omega), if_pos w0, b_X12_far_122, b_X12_far_138]
      · rw [if_neg w0, if_neg w0, b_X12_far_126]
        by_cases w1 : w = 1
        · rw [if_pos w1, if_neg (by omega), b_X12_far_131, b_X12_far_138]
        · rw [if_neg w1, if_pos (by omega), b_X12_far_136, b_X12_far_138]
  · refine opW_no (r := -1) ?_ ?_
    · rw [e_X11_far, b_X11_far_0, c_hasPlace (by omega) (by omega), qB_some, psh_some, b_X11_far_8, zb_0]
      by_cases g1 : 0 ≤ a ∧ a < 2 * v 11 0
      · rw [if_pos g1, b_X11_far_11]
        by_cases g2 : w < 0
        · rw [if_pos g2, b_X11_far_20]
        · rw [if_neg g2, b_X11_far_15, if_pos (by omega), b_X11_far_20]
      · rw [if_neg g1, b_X11_far_20]
    · rw [e_X12_far, b_X12_far_0, c_isPlace (by omega) (by omega), qB_some, psh_some, b_X12_far_6, zb_0, k1]
      by_cases g1 : 0 ≤ a ∧ a < 2 * v 11 0
      · rw [if_pos g1, b_X12_far_9, c_within, qB_some, psh_some, b_X12_far_18, zb_0, if_neg (by omega), b_X12_far_21]
      · rw [if_neg g1, b_X12_far_21]
/-- bits of the yards within reach on a side -/
def bt (m : Nat → Int) (s : Nat) (x : Int) : Nat → Int
  | 0 => 0
  | j + 1 => pm_or (bt m s x j) (if x < m (2 * j + s) then 0 else pm_shl 1 (j : Int))
theorem lp_yards {m : Nat → Int} {s : Nat} (x : Int) (hs : s < 2) (hm : v 34 = m) (h9 : v 29 9 = (P : Int)) (hP : P ≤ 60) {Y : Nat} (hY : 2 * Y = P) : ∀ (n j : Nat), j + n = Y → qG L xs d CX10_yardsWithin 5 [(2, 29), (0, (s : Int)), (0, x), (0, bt m s x j), (0, ((2 * j + s : Nat) : Int))] [] (qS v) = some (some (0, bt m s x Y), qS v)
  | 0, j, hj => by
    rw [b_X10_yardsWithin_5, if_neg (by omega), b_X10_yardsWithin_44, show j = Y by omega]
  | n + 1, j, hj => by
    have h3 := lp_yards x hs hm h9 hP hY n (j + 1) (by omega)
    rw [show ((2 * (j + 1) + s : Nat) : Int) = ((2 * j + s : Nat) : Int) + 2 by omega] at h3
    refine Eq.trans ?_ h3
    have e : bt m s x (j + 1) = pm_or (bt m s x j) (if x < m (2 * j + s) then 0 else pm_shl 1 (j : Int)) := rfl
    have e0 : w32 (Int.tdiv ((2 * j + s : Nat) : Int) 2) = (j : Int) := by
      rw [half_p _ (by omega)]
      omega
    rw [e, b_X10_yardsWithin_5, if_pos (by omega), b_X10_yardsWithin_14, if_pos (by omega), Int.toNat_natCast, hm, b_X10_yardsWithin_22]
    by_cases g : x < m (2 * j + s)
    · rw [if_pos g, if_pos g, b_X10_yardsWithin_35, b_X10_yardsWithin_36, w32_id (by omega) (by omega)]
    · rw [if_neg g, if_neg g, b_X10_yardsWithin_26, e0, b_X10_yardsWithin_36, w32_id (by omega) (by omega)]
theorem lp_mreach {m : Nat → Int} {s : Nat} (a w x : Int) (hs : s < 2) (hw1 : w32 (Int.tdiv w 1000) = (s : Int)) (hw2 : Int.tmod w 1000 = x) (hx : 0 ≤ x ∧ x ≤ 999) {Y : Nat} (hY : v 64 140 = (Y : Int)) (hY2 : Y ≤ 30) (hR : ∀ p, p < 2 * Y → Rl (m p) (v 75 p)) : ∀ (n j : Nat), j + n = Y → qG L xs (d + 1) CX12_reach 38 [(2, 63), (0, a), (0, w), (0, bt m s x j), (0, (j : Int))] [] (qS v) = some (some (0, bt m s x Y), qS v)
  | 0, j, hj => by
    rw [b_X12_reach_38, c_yardMany, qB_some, psh_some, b_X12_reach_44, if_neg (by omega), b_X12_reach_87, show j = Y by omega]
  | n + 1, j, hj => by
    have h3 := lp_mreach a w x hs hw1 hw2 hx hY hY2 hR n (j + 1) (by omega)
    rw [show ((j + 1 : Nat) : Int) = (j : Int) + 1 by omega] at h3
    refine Eq.trans ?_ h3
    have hj2 := hR (2 * j + s) (by omega)
    have e : bt m s x (j + 1) = pm_or (bt m s x j) (if x < m (2 * j + s) then 0 else pm_shl 1 (j : Int)) := rfl
    have hx2 : x < m (2 * j + s) ↔ x < v 75 (2 * j + s) := by
      rcases hj2 with ⟨h1, h2, h3⟩ | ⟨h1, h2⟩
      · rw [h3]
      · constructor <;> intro _ <;> omega
    rw [e, b_X12_reach_38, c_yardMany, qB_some, psh_some, b_X12_reach_44, if_pos (by omega), b_X12_reach_47, hw1, w32_id (z := 2 * (j : Int)) (by omega) (by omega), w32_id (by omega) (by omega), if_pos (by omega), show (2 * (j : Int) + (s : Int)).toNat = 2 * j + s by omega, b_X12_reach_63, hw2]
    by_cases g : x < m (2 * j + s)
    · rw [if_pos (hx2.mp g), if_pos g, b_X12_reach_78, b_X12_reach_79, w32_id (by omega) (by omega)]
    · rw [if_neg (fun q => g (hx2.mpr q)), if_neg g, b_X12_reach_71, b_X12_reach_79, w32_id (by omega) (by omega)]
theorem op_reach (hz : Wz L xs v c) (a w : Int) (hw : w < 2147483648) : opW L xs d v nX11_reach nX12_reach [(0, a), (0, w)] := by
  have hz0 := hz
  obtain ⟨hW, hC, hM, hN, h5, h6, h7⟩ := hz
  have hW0 := hW
  obtain ⟨q1, -⟩ := hW0
  have k1 := hC.1.1
  obtain ⟨P, hP⟩ : ∃ P : Nat, 2 * v 11 0 = (P : Int) := ⟨(2 * v 11 0).toNat, by omega⟩
  obtain ⟨Y, hY⟩ : ∃ Y : Nat, v 11 0 = (Y : Int) := ⟨(v 11 0).toNat, by omega⟩
  by_cases g : (0 ≤ a ∧ a < 2 * v 11 0) ∧ 0 ≤ w ∧ w / 1000 ≤ 1
  · obtain ⟨s, rfl⟩ : ∃ s : Nat, a = (s : Int) := ⟨a.toNat, by omega⟩
    have hs : s < P := by omega
    obtain ⟨t, ht⟩ : ∃ t : Nat, w / 1000 = (t : Int) := ⟨(w / 1000).toNat, by omega⟩
    have hw1 : w32 (Int.tdiv w 1000) = (t : Int) := by
      rw [td_pos 1000 (by omega), w32_id (by omega) (by omega), ht]
    have hw2 : Int.tmod w 1000 = w % 1000 := tm_pos 1000 (by omega)
    obtain ⟨v1, v2, S, e1, e2, e3, e4, e5⟩ := c_ways (L := L) (xs := xs) (d := d + 89) hW hM hP hs
    have hz2 := Wz_W e3 hz0
    have hP2 : 2 * v2 11 0 = (P : Int) := by rw [fW_c e3 (c := 11) (by omega)]; exact hP
    have k2 : 2 * v2 64 140 = (P : Int) := by rw [hz2.2.1.1.1]; exact hP2
    obtain ⟨v3, v4, e6, e7, e8, e9⟩ := m_ways (L := L) (xs := xs) (d := d + 7) hz2 hP2 hs
    rw [SG_W e3] at e9
    have hR : ∀ p, p < P → Rl (v2 34 p) (v4 75 p) := fun p hp => Lst_Rl (e5 p hp) (e9 p hp)
    have h9 := e4.2.2.1
    have l1 := lp_yards (L := L) (xs := xs) (d := d + 98) (v := v2) (m := v2 34) (s := t) (P := P) (Y := Y) (w % 1000) (by omega) rfl h9 (by omega) (by omega) Y 0 (by omega)
    have k4 : v4 64 140 = (Y : Int) := by
      rw [fN_c e8.1 (c := 64) (by omega)]
      omega
    have l2 := lp_mreach (L := L) (xs := xs) (d := d + 98) (v := v4) (m := v2 34) (s := t) (Y := Y) (s : Int) w (w % 1000) (by omega) hw1 hw2 (by omega) k4 (by omega) (fun p hp => hR p (by omega)) Y 0 (by omega)
    refine ⟨bt (v2 34) t (w % 1000) Y, v2, v4, ?_, e3, ?_, e8⟩
    · rw [e_X11_reach, b_X11_reach_0, c_hasPlace (by omega) (by omega), qB_some, psh_some, b_X11_reach_8, zb_0, if_pos g.1, b_X11_reach_11, if_neg (by omega), b_X11_reach_15, hw1, if_neg (by omega), b_X11_reach_26, e1, qB_some, psh_none, b_X11_reach_41, e2, qB_some, psh_none, b_X11_reach_50, hw1, hw2, e_X10_yardsWithin, b_X10_yardsWithin_0]
      have l1' : qG L xs (d + 98) CX10_yardsWithin 5 [(2, 29), (0, (t : Int)), (0, w % 1000), (0, 0), (0, (t : Int))] [] (qS v2) = some (some (0, bt (v2 34) t (w % 1000) Y), qS v2) := by
        rw [show 2 * 0 + t = t by omega] at l1
        exact l1
      rw [l1', qB_some, psh_some, b_X11_reach_67]
    · rw [e_X12_reach, b_X12_reach_0, c_isPlace (by omega) (by omega), qB_some, psh_some, b_X12_reach_6, zb_0, if_pos (by omega), b_X12_reach_9, if_neg (by omega), b_X12_reach_13, hw1, if_neg (by omega), b_X12_reach_24, e6, qB_some, psh_none, b_X12_reach_28, e7, qB_some, psh_none, b_X12_reach_33]
      exact l2
  · have hd : ¬ w < 0 → w32 (Int.tdiv w 1000) = w / 1000 := fun h => by
      rw [td_pos 1000 (by omega), w32_id (by omega) (by omega)]
    refine opW_no (r := -1) ?_ ?_
    · rw [e_X11_reach, b_X11_reach_0, c_hasPlace (by omega) (by omega), qB_some, psh_some, b_X11_reach_8, zb_0]
      by_cases g1 : 0 ≤ a ∧ a < 2 * v 11 0
      · rw [if_pos g1, b_X11_reach_11]
        by_cases g2 : w < 0
        · rw [if_pos g2, b_X11_reach_24]
        · rw [if_neg g2, b_X11_reach_15, hd g2, if_pos (by omega), b_X11_reach_24]
      · rw [if_neg g1, b_X11_reach_24]
    · rw [e_X12_reach, b_X12_reach_0, c_isPlace (by omega) (by omega), qB_some, psh_some, b_X12_reach_6, zb_0, k1]
      by_cases g1 : 0 ≤ a ∧ a < 2 * v 11 0
      · rw [if_pos g1, b_X12_reach_9]
        by_cases g2 : w < 0
        · rw [if_pos g2, b_X12_reach_22]
        · rw [if_neg g2, b_X12_reach_13, hd g2, if_pos (by omega), b_X12_reach_22]
      · rw [if_neg g1, b_X12_reach_22]
end FB
