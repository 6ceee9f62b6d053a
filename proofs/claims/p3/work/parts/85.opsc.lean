/-! CALLS that keep the relation: lend, tax, image, back (written by wip/p1/85.opsc.py) -/
section OC2
variable {L : Nat} {xs : Nat → Int} {d : Nat} {v w : Nat → Nat → Int} {k n : Nat}
theorem opr_lend (h : rlR v) (y n : Int) (hy : y < 2147483648) : opR L xs v nX11_lend nX12_lend 0 [(0, y), (0, n)] := by
  obtain ⟨⟨hD, hd0⟩, hI⟩ := h.2.2.2.2.1
  by_cases g : (0 ≤ y ∧ y / 10 < 6 ∧ y % 10 < 6 ∧ y / 10 ≠ y % 10) ∧ -99 ≤ n ∧ n ≤ 99
  · obtain ⟨a, ha⟩ : ∃ a : Nat, y / 10 = (a : Int) := ⟨(y / 10).toNat, by omega⟩
    obtain ⟨b, hb⟩ : ∃ b : Nat, y % 10 = (b : Int) := ⟨(y % 10).toNat, by omega⟩
    have y1 : w32 (Int.tdiv y 10) = (a : Int) := by rw [td_pos 10 (by omega), w32_id (by omega) (by omega), ha]
    have y2 : Int.tmod y 10 = (b : Int) := by rw [tm_pos 10 (by omega), hb]
    have i1 : ((a : Int) * 6 + (b : Int)).toNat = 6 * a + b := by omega
    have i2 : w32 (w32 (6 * (a : Int)) + (b : Int)) = ((6 * a + b : Nat) : Int) := by
      rw [w32_id (z := 6 * (a : Int)) (by omega) (by omega), w32_id (by omega) (by omega)]; omega
    have i3 : w32 (w32 ((a : Int) * 6) + (b : Int)) = ((6 * a + b : Nat) : Int) := by
      rw [w32_id (z := (a : Int) * 6) (by omega) (by omega), w32_id (by omega) (by omega)]; omega
    obtain ⟨k, hk⟩ : ∃ k, k = 6 * a + b := ⟨_, rfl⟩
    have hk36 : k < 36 := by omega
    rw [← hk] at i1 i2 i3
    have r := hD k hk36
    have s1 : w32 (v 42 k + n) = v 42 k + n := w32_id (by omega) (by omega)
    by_cases z : 0 ≤ v 42 k + n ∧ v 42 k + n ≤ 999
    · obtain ⟨w1, hw1⟩ : ∃ w1, w1 = pm_up v 42 k (v 42 k + n) := ⟨_, rfl⟩
      obtain ⟨w2, hw2⟩ : ∃ w2, w2 = pm_up w1 79 k (v 42 k + n) := ⟨_, rfl⟩
      have hu : ∀ c j, ¬ ((c = 42 ∨ c = 79) ∧ j = k) → w2 c j = v c j := fun c j q => by
        rw [hw2, up_ne (by omega), hw1, up_ne (by omega)]
      refine ⟨v 42 k + n, w1, w2, ?_, ?_, ?_⟩
      · have st : qE L xs 999 nX2_set [(2, 41), (0, (a : Int)), (0, (b : Int)), (0, v 42 k + n)] (qS v) = some (none, qS w1) := by
          rw [e_X2_set_41, b_X2_set_41_0, cd_hasOwner, qB_some, psh_some, b_X2_set_41_4, zb_0, if_pos (by omega), b_X2_set_41_7, cd_hasOwner, qB_some, psh_some, b_X2_set_41_11, zb_0, if_pos (by omega), b_X2_set_41_14, i3, if_pos (by omega), Int.toNat_natCast, ← hw1, b_X2_set_41_26]
        rw [e_X11_lend, b_X11_lend_0, cd_areOwners y hy, qB_some, psh_some, b_X11_lend_4, zb_0, if_pos g.1, b_X11_lend_7, if_neg (by omega), b_X11_lend_13, if_neg (by omega), b_X11_lend_21, y1, y2, cd_lent _ _ (by omega) (by omega), i1, qB_some, psh_some, b_X11_lend_36, s1, if_neg (by omega), b_X11_lend_43, if_neg (by omega), b_X11_lend_53, y1, y2, st, qB_some, psh_none, b_X11_lend_69]
      · have k1 : w1 79 k = v 42 k := by rw [hw1, up_ne (by omega)]; exact r.1
        rw [e_X12_lend, b_X12_lend_0, md_areOwners y hy, qB_some, psh_some, b_X12_lend_4, zb_0, if_pos g.1, b_X12_lend_7, c_within, qB_some, psh_some, b_X12_lend_18, zb_0, if_pos g.2, b_X12_lend_23, y1, y2, i2, if_pos (by omega), Int.toNat_natCast, k1, b_X12_lend_42, s1, c_within, qB_some, psh_some, b_X12_lend_52, zb_0, if_pos z, b_X12_lend_58, if_pos (by omega), Int.toNat_natCast, k1, b_X12_lend_65, if_pos (by omega), Int.toNat_natCast, s1, ← hw2, b_X12_lend_68, if_pos (by omega), Int.toNat_natCast, hw2, up_eq, b_X12_lend_74]
      · have hD2 : rlD w2 := by
          have a1 : w2 42 k = v 42 k + n := by rw [hw2, up_ne (by omega), hw1, up_eq]
          have a2 : w2 79 k = v 42 k + n := by rw [hw2, up_eq]
          refine ⟨⟨fun i hi => ?_, fun c hc => ?_⟩, fun q => ?_⟩
          · by_cases e : i = k
            · rw [e, a1, a2]
              exact ⟨rfl, z⟩
            · rw [hu 42 i (by omega), hu 79 i (by omega)]
              exact hD i hi
          · rw [hu 42 (7 * c) (by omega)]
            exact hd0 c hc
          · rw [hu 0 11 (by omega)] at q
            have c1 : w2 45 = v 45 := funext (fun j => hu 45 j (by omega))
            have c2 : w2 82 = v 82 := funext (fun j => hu 82 j (by omega))
            rw [c1, c2]
            exact hI q
        exact rlR_or h (Or.inr (fun c j q => hu c j (by unfold dsW at q; omega))) (Or.inr (fun c j q => hu c j (by unfold dsC at q; omega))) (Or.inr (fun c j q => hu c j (by unfold dsT at q; omega))) (Or.inr (fun c j q => hu c j (by unfold dsL at q; omega))) (Or.inl hD2) (Or.inr (fun c j q => hu c j (by unfold dsG at q; omega))) (Or.inr (fun c j q => hu c j (by unfold dsB at q; omega))) (Or.inr (fun c j q => hu c j (by unfold dsS at q; omega))) (Or.inr (fun c j q => hu c j (by unfold dsN at q; omega)))
    · refine opR_no (r := -5) h ?_ ?_
      · rw [e_X11_lend, b_X11_lend_0, cd_areOwners y hy, qB_some, psh_some, b_X11_lend_4, zb_0, if_pos g.1, b_X11_lend_7, if_neg (by omega), b_X11_lend_13, if_neg (by omega), b_X11_lend_21, y1, y2, cd_lent _ _ (by omega) (by omega), i1, qB_some, psh_some, b_X11_lend_36, s1]
        by_cases z2 : v 42 k + n < 0
        · rw [if_pos z2, b_X11_lend_50]
        · rw [if_neg z2, b_X11_lend_43, if_pos (by omega), b_X11_lend_50]
      · rw [e_X12_lend, b_X12_lend_0, md_areOwners y hy, qB_some, psh_some, b_X12_lend_4, zb_0, if_pos g.1, b_X12_lend_7, c_within, qB_some, psh_some, b_X12_lend_18, zb_0, if_pos g.2, b_X12_lend_23, y1, y2, i2, if_pos (by omega), Int.toNat_natCast, r.1, b_X12_lend_42, s1, c_within, qB_some, psh_some, b_X12_lend_52, zb_0, if_neg z, b_X12_lend_55]
  · refine opR_no (r := -1) h ?_ ?_
    · rw [e_X11_lend, b_X11_lend_0, cd_areOwners y hy, qB_some, psh_some, b_X11_lend_4, zb_0]
      by_cases g1 : 0 ≤ y ∧ y / 10 < 6 ∧ y % 10 < 6 ∧ y / 10 ≠ y % 10
      · rw [if_pos g1, b_X11_lend_7]
        by_cases g2 : n < -99
        · rw [if_pos g2, b_X11_lend_19]
        · rw [if_neg g2, b_X11_lend_13, if_pos (by omega), b_X11_lend_19]
      · rw [if_neg g1, b_X11_lend_19]
    · rw [e_X12_lend, b_X12_lend_0, md_areOwners y hy, qB_some, psh_some, b_X12_lend_4, zb_0]
      by_cases g1 : 0 ≤ y ∧ y / 10 < 6 ∧ y % 10 < 6 ∧ y / 10 ≠ y % 10
      · rw [if_pos g1, b_X12_lend_7, c_within, qB_some, psh_some, b_X12_lend_18, zb_0, if_neg (by omega), b_X12_lend_21]
      · rw [if_neg g1, b_X12_lend_21]
/-- warmer than both beside it -/
abbrev wmP (v : Nat → Nat → Int) (Y y : Nat) : Prop := (y = 0 ∨ v 4 (y - 1) < v 4 y) ∧ (y + 1 = Y ∨ v 4 (y + 1) < v 4 y)
def txN (v : Nat → Nat → Int) (Y : Nat) (o : Int) : Nat → Int
  | 0 => 0
  | y + 1 => txN v Y o y + (if v 5 y = o then (if wmP v Y y then 2 else 1) else 0)
theorem txN_in (v : Nat → Nat → Int) (Y : Nat) (o : Int) : ∀ y : Nat, 0 ≤ txN v Y o y ∧ txN v Y o y ≤ 2 * (y : Int)
  | 0 => ⟨Int.le_refl 0, Int.le_refl 0⟩
  | y + 1 => by
    have ih := txN_in v Y o y
    unfold txN
    split
    · split <;> omega
    · omega
theorem cr_isWarmest {Y y : Nat} (h : rlW v) (hY : v 11 0 = (Y : Int)) (hy : y < Y) : qE L xs (d + 4) nX9_isWarmest [(2, 1), (0, (y : Int))] (qS v) = some (some (0, zb (wmP v Y y)), qS v) := by
  have pL := rW_L h
  have a1 : hm v 1 = 30 := rfl
  have A : ∀ x2, qG L xs (d + 3) CX9_isWarmest 23 [(2, 1), (0, (y : Int)), (0, v 4 y)] [] (qS v) = x2 → (y + 1 = Y ∨ v 4 (y + 1) < v 4 y → x2 = some (some (0, 1), qS v)) ∧ (¬ (y + 1 = Y ∨ v 4 (y + 1) < v 4 y) → x2 = some (some (0, 0), qS v)) := fun x2 e => by
    rw [b_X9_isWarmest_23, c_yardsNow, qB_some, psh_some, b_X9_isWarmest_28, w32_id (by omega) (by omega)] at e
    by_cases g : y + 1 = Y
    · rw [if_pos (by omega), b_X9_isWarmest_45, b_X9_isWarmest_50, if_pos (by decide)] at e
      exact ⟨fun _ => e.symm, fun q => absurd (Or.inl g) q⟩
    · rw [if_neg (by omega), b_X9_isWarmest_33, w32_id (by omega) (by omega), show (y : Int) + 1 = ((y + 1 : Nat) : Int) by omega, c_value_in 1 ((y + 1 : Nat) : Int) (by omega) (by omega) (by omega) (by omega) (by omega), qB_some, psh_some, show v (3 + (1 : Int).toNat) (((y + 1 : Nat) : Int)).toNat = v 4 (y + 1) from rfl, b_X9_isWarmest_42] at e
      by_cases g2 : v 4 (y + 1) < v 4 y
      · rw [if_pos g2, b_X9_isWarmest_45, b_X9_isWarmest_50, if_pos (by decide)] at e
        exact ⟨fun _ => e.symm, fun q => absurd (Or.inr g2) q⟩
      · rw [if_neg g2, b_X9_isWarmest_49, b_X9_isWarmest_50, if_pos (by decide)] at e
        exact ⟨fun q => absurd q (by omega), fun _ => e.symm⟩
  have B := A _ rfl
  rw [e_X9_isWarmest, b_X9_isWarmest_0, c_value_in 1 y (by omega) (by omega) (by omega) (by omega) (by omega), qB_some, psh_some, show v (3 + (1 : Int).toNat) (y : Int).toNat = v 4 y from rfl, b_X9_isWarmest_6]
  by_cases g : y = 0
  · rw [if_pos (by omega)]
    by_cases z : y + 1 = Y ∨ v 4 (y + 1) < v 4 y
    · rw [B.1 z, zb_t ⟨Or.inl g, z⟩]
    · rw [B.2 z, zb_f (fun q => z q.2)]
  · rw [if_neg (by omega), b_X9_isWarmest_11, w32_id (by omega) (by omega), show (y : Int) - 1 = ((y - 1 : Nat) : Int) by omega, c_value_in 1 ((y - 1 : Nat) : Int) (by omega) (by omega) (by omega) (by omega) (by omega), qB_some, psh_some, show v (3 + (1 : Int).toNat) (((y - 1 : Nat) : Int)).toNat = v 4 (y - 1) from rfl, b_X9_isWarmest_20]
    by_cases g2 : v 4 (y - 1) < v 4 y
    · rw [if_pos g2]
      by_cases z : y + 1 = Y ∨ v 4 (y + 1) < v 4 y
      · rw [B.1 z, zb_t ⟨Or.inr g2, z⟩]
      · rw [B.2 z, zb_f (fun q => z q.2)]
    · rw [if_neg g2, b_X9_isWarmest_49, b_X9_isWarmest_50, if_pos (by decide), zb_f (fun q => by have := q.1; omega)]
theorem lpr_tax {Y : Nat} (o : Int) (h : rlW v) (hY : v 11 0 = (Y : Int)) : ∀ (n y : Nat), y + n = Y → qG L xs (d + 4) CX11_tax 13 [(2, 0), (0, o), (0, v 14 0 * txN v Y o y), (0, (y : Int))] [] (qS v) = some (some (0, v 14 0 * txN v Y o Y), qS v)
  | 0, y, hy => by
    rw [b_X11_tax_13, c_yardsNow, qB_some, psh_some, b_X11_tax_21, if_neg (by omega), b_X11_tax_73, show y = Y by omega]
  | n + 1, y, hy => by
    have pL := rW_L h
    have pR := rW_R h
    have a2 : hm v 2 = 30 := rfl
    have a11 : hm v 11 = 1 := rfl
    have ih := lpr_tax o h hY n (y + 1) (by omega)
    have ti := txN_in v Y o y
    have mb : 0 ≤ v 14 0 * txN v Y o y ∧ v 14 0 * txN v Y o y ≤ 99 * 60 := ⟨Int.mul_nonneg pR.1 ti.1, Int.mul_le_mul pR.2 (by omega) ti.1 (by decide)⟩
    have e : txN v Y o (y + 1) = txN v Y o y + (if v 5 y = o then (if wmP v Y y then 2 else 1) else 0) := rfl
    refine Eq.trans ?_ ih
    rw [e, b_X11_tax_13, c_yardsNow, qB_some, psh_some, b_X11_tax_21, if_pos (by omega), b_X11_tax_24, c_value_in 2 y (by omega) (by omega) (by omega) (by omega) (by omega), qB_some, psh_some, show v (3 + (2 : Int).toNat) (y : Int).toNat = v 5 y from rfl, b_X11_tax_33]
    by_cases g : v 5 y = o
    · rw [if_pos g, if_pos g, b_X11_tax_37, c_value_in 11 0 (by omega) (by omega) (by omega) (by omega) (by omega), qB_some, psh_some, show v (3 + (11 : Int).toNat) (0 : Int).toNat = v 14 0 from rfl, b_X11_tax_48, cr_isWarmest h hY (by omega), qB_some, psh_some, b_X11_tax_56, zb_0]
      by_cases g2 : wmP v Y y
      · rw [if_pos g2, if_pos g2, b_X11_tax_59, b_X11_tax_64, w32_id (z := v 14 0 * 2) (by omega) (by omega), w32_id (by omega) (by omega), b_X11_tax_67, w32_id (by omega) (by omega), Int.mul_add]
        rfl
      · rw [if_neg g2, if_neg g2, b_X11_tax_63, b_X11_tax_64, w32_id (z := v 14 0 * 1) (by omega) (by omega), w32_id (by omega) (by omega), b_X11_tax_67, w32_id (by omega) (by omega), Int.mul_add]
        rfl
    · rw [if_neg g, if_neg g, b_X11_tax_67, w32_id (by omega) (by omega), Int.add_zero]
      rfl
theorem lpr_mtax {Y : Nat} (o : Int) (h : rlW v) (hY : v 11 0 = (Y : Int)) : ∀ (n y : Nat) (u4 : pm_V), y + n = Y → ∃ w4, qG L xs (d + 2) CX12_tax 13 [(2, 63), (0, o), (0, txN v Y o y), (0, (y : Int)), u4] [] (qS v) = qG L xs (d + 2) CX12_tax 104 [(2, 63), (0, o), (0, txN v Y o Y), (0, (Y : Int)), w4] [] (qS v)
  | 0, y, u4, hy => by
    have pM := rM_L h
    refine ⟨u4, ?_⟩
    rw [b_X12_tax_13, c_yardMany, qB_some, psh_some, b_X12_tax_18, if_neg (by omega), show y = Y by omega]
  | n + 1, y, u4, hy => by
    have pL := rW_L h
    have pM := rM_L h
    have ti := txN_in v Y o y
    have wa : ∀ j : Nat, j < 30 → qE L xs (d + 2) nX12_warmOf [(2, 63), (0, (j : Int))] (qS v) = some (some (0, v 4 j), qS v) := fun j hj => by
      rw [e_X12_warmOf, b_X12_warmOf_0, w32_id (by omega) (by omega), if_pos (by omega), show (30 + (j : Int)).toNat = 30 + j by omega, b_X12_warmOf_9, rM_w h j hj]
    have wo : qE L xs (d + 2) nX12_ownerOf [(2, 63), (0, (y : Int))] (qS v) = some (some (0, v 5 y), qS v) := by
      rw [e_X12_ownerOf, b_X12_ownerOf_0, w32_id (by omega) (by omega), if_pos (by omega), show (60 + (y : Int)).toNat = 60 + y by omega, b_X12_ownerOf_9, rM_o h y (by omega)]
    have e : txN v Y o (y + 1) = txN v Y o y + (if v 5 y = o then (if wmP v Y y then 2 else 1) else 0) := rfl
    have T : ∀ z : Int, (z = 1 ∧ wmP v Y y) ∨ (z = 0 ∧ ¬ wmP v Y y) → qG L xs (d + 2) CX12_tax 70 [(2, 63), (0, o), (0, txN v Y o y), (0, (y : Int)), u4] [(0, z)] (qS v) = qG L xs (d + 2) CX12_tax 13 [(2, 63), (0, o), (0, txN v Y o (y + 1)), (0, ((y + 1 : Nat) : Int)), (0, z)] [] (qS v) := fun z hz => by
      rw [e, b_X12_tax_70, wo, qB_some, psh_some, b_X12_tax_78]
      by_cases g : v 5 y = o
      · rw [if_pos g, if_pos g, b_X12_tax_86]
        rcases hz with ⟨z1, z2⟩ | ⟨z1, z2⟩
        · rw [if_neg (by omega), if_pos z2, b_X12_tax_91, b_X12_tax_96, w32_id (by omega) (by omega), w32_id (by omega) (by omega)]
          rfl
        · rw [if_pos z1, if_neg z2, b_X12_tax_95, b_X12_tax_96, w32_id (by omega) (by omega), w32_id (by omega) (by omega)]
          rfl
      · rw [if_neg g, if_neg g, b_X12_tax_82, b_X12_tax_96, w32_id (by omega) (by omega), w32_id (by omega) (by omega)]
        rfl
    have S : ∃ z : Int, ((z = 1 ∧ wmP v Y y) ∨ (z = 0 ∧ ¬ wmP v Y y)) ∧ qG L xs (d + 2) CX12_tax 13 [(2, 63), (0, o), (0, txN v Y o y), (0, (y : Int)), u4] [] (qS v) = qG L xs (d + 2) CX12_tax 70 [(2, 63), (0, o), (0, txN v Y o y), (0, (y : Int)), u4] [(0, z)] (qS v) := by
      have B : (y = 0 ∨ v 4 (y - 1) < v 4 y) → ∃ z : Int, ((z = 1 ∧ wmP v Y y) ∨ (z = 0 ∧ ¬ wmP v Y y)) ∧ qG L xs (d + 2) CX12_tax 40 [(2, 63), (0, o), (0, txN v Y o y), (0, (y : Int)), u4] [] (qS v) = qG L xs (d + 2) CX12_tax 70 [(2, 63), (0, o), (0, txN v Y o y), (0, (y : Int)), u4] [(0, z)] (qS v) := fun h0 => by
        by_cases g : y + 1 = Y
        · refine ⟨1, Or.inl ⟨rfl, h0, Or.inl g⟩, ?_⟩
          rw [b_X12_tax_40, c_yardMany, qB_some, psh_some, b_X12_tax_47, w32_id (by omega) (by omega), if_pos (by omega), b_X12_tax_65]
        · by_cases g2 : v 4 (y + 1) < v 4 y
          · refine ⟨1, Or.inl ⟨rfl, h0, Or.inr g2⟩, ?_⟩
            rw [b_X12_tax_40, c_yardMany, qB_some, psh_some, b_X12_tax_47, w32_id (by omega) (by omega), if_neg (by omega), b_X12_tax_50, wa y (by omega), qB_some, psh_some, b_X12_tax_55, w32_id (by omega) (by omega), show (y : Int) + 1 = ((y + 1 : Nat) : Int) by omega, wa (y + 1) (by omega), qB_some, psh_some, b_X12_tax_62, if_pos g2, b_X12_tax_65]
          · refine ⟨0, Or.inr ⟨rfl, fun q => by have := q.2; omega⟩, ?_⟩
            rw [b_X12_tax_40, c_yardMany, qB_some, psh_some, b_X12_tax_47, w32_id (by omega) (by omega), if_neg (by omega), b_X12_tax_50, wa y (by omega), qB_some, psh_some, b_X12_tax_55, w32_id (by omega) (by omega), show (y : Int) + 1 = ((y + 1 : Nat) : Int) by omega, wa (y + 1) (by omega), qB_some, psh_some, b_X12_tax_62, if_neg g2, b_X12_tax_69]
      by_cases g : y = 0
      · obtain ⟨z, z1, z2⟩ := B (Or.inl g)
        refine ⟨z, z1, ?_⟩
        rw [b_X12_tax_13, c_yardMany, qB_some, psh_some, b_X12_tax_18, if_pos (by omega), b_X12_tax_21, if_pos (by omega), z2]
      · by_cases g2 : v 4 (y - 1) < v 4 y
        · obtain ⟨z, z1, z2⟩ := B (Or.inr g2)
          refine ⟨z, z1, ?_⟩
          rw [b_X12_tax_13, c_yardMany, qB_some, psh_some, b_X12_tax_18, if_pos (by omega), b_X12_tax_21, if_neg (by omega), b_X12_tax_25, wa y (by omega), qB_some, psh_some, b_X12_tax_30, w32_id (by omega) (by omega), show (y : Int) - 1 = ((y - 1 : Nat) : Int) by omega, wa (y - 1) (by omega), qB_some, psh_some, b_X12_tax_37, if_pos g2, z2]
        · refine ⟨0, Or.inr ⟨rfl, fun q => by have := q.1; omega⟩, ?_⟩
          rw [b_X12_tax_13, c_yardMany, qB_some, psh_some, b_X12_tax_18, if_pos (by omega), b_X12_tax_21, if_neg (by omega), b_X12_tax_25, wa y (by omega), qB_some, psh_some, b_X12_tax_30, w32_id (by omega) (by omega), show (y : Int) - 1 = ((y - 1 : Nat) : Int) by omega, wa (y - 1) (by omega), qB_some, psh_some, b_X12_tax_37, if_neg g2, b_X12_tax_69]
    obtain ⟨z, z1, z2⟩ := S
    obtain ⟨w4, ih⟩ := lpr_mtax o h hY n (y + 1) (0, z) (by omega)
    exact ⟨w4, z2.trans ((T z z1).trans ih)⟩
theorem opr_tax (h : rlR v) (o : Int) : opR L xs v nX11_tax nX12_tax 0 [(0, o)] := by
  have pL := rW_L h.1
  have pR := rW_R h.1
  have mR := rM_R h.1
  obtain ⟨Y, hY⟩ : ∃ Y : Nat, v 11 0 = (Y : Int) := ⟨(v 11 0).toNat, by omega⟩
  by_cases g : 0 ≤ o ∧ o < 6
  · have ti := txN_in v Y o Y
    have mb : 0 ≤ v 14 0 * txN v Y o Y ∧ v 14 0 * txN v Y o Y ≤ 99 * 60 := ⟨Int.mul_nonneg pR.1 ti.1, Int.mul_le_mul pR.2 (by omega) ti.1 (by decide)⟩
    have l1 := lpr_tax (L := L) (xs := xs) (d := 995) o h.1 hY Y 0 (by omega)
    obtain ⟨w4, l2⟩ := lpr_mtax (L := L) (xs := xs) (d := 997) o h.1 hY Y 0 (9, 0) (by omega)
    refine opR_no (r := v 14 0 * txN v Y o Y) h ?_ ?_
    · rw [e_X11_tax, b_X11_tax_0, cd_hasOwner, qB_some, psh_some, b_X11_tax_4, zb_0, if_pos g, b_X11_tax_9]
      have l1' : qG L xs 999 CX11_tax 13 [(2, 0), (0, o), (0, v 14 0 * 0), (0, 0)] [] (qS v) = _ := l1
      rw [Int.mul_zero] at l1'
      exact l1'
    · rw [e_X12_tax, b_X12_tax_0, md_isOwner, qB_some, psh_some, b_X12_tax_4, zb_0, if_pos g, b_X12_tax_9]
      refine Eq.trans l2 ?_
      rw [b_X12_tax_104, mR, Int.mul_comm, w32_id (by omega) (by omega)]
  · refine opR_no (r := -1) h ?_ ?_
    · rw [e_X11_tax, b_X11_tax_0, cd_hasOwner, qB_some, psh_some, b_X11_tax_4, zb_0, if_neg g, b_X11_tax_7]
    · rw [e_X12_tax, b_X12_tax_0, md_isOwner, qB_some, psh_some, b_X12_tax_4, zb_0, if_neg g, b_X12_tax_7]
theorem lpr_img1 : ∀ (n j : Nat) (v : Nat → Nat → Int), j + n = 36 → ∃ v', qG L xs d CX12_image 7 [(2, 63), (0, (j : Int))] [] (qS v) = qG L xs d CX12_image 31 [(2, 63), (0, 36)] [] (qS v') ∧ (∀ c i, ¬ (c = 82 ∧ j ≤ i ∧ i < 36) → v' c i = v c i) ∧ ∀ i, j ≤ i → i < 36 → v' 82 i = v 79 i
  | 0, j, v, hj => by
    have e : j = 36 := by omega
    subst e
    refine ⟨v, ?_, fun _ _ _ => rfl, fun i h1 h2 => by omega⟩
    rw [b_X12_image_7, if_neg (by omega)]
    rfl
  | n + 1, j, v, hj => by
    obtain ⟨v', e1, e2, e3⟩ := lpr_img1 n (j + 1) (pm_up v 82 j (v 79 j)) (by omega)
    refine ⟨v', ?_, fun c i q => ?_, fun i h1 h2 => ?_⟩
    · refine Eq.trans ?_ e1
      rw [b_X12_image_7, if_pos (by omega), b_X12_image_13, if_pos (by omega), Int.toNat_natCast, b_X12_image_24, if_pos (by omega), Int.toNat_natCast, b_X12_image_25, w32_id (by omega) (by omega)]
      rfl
    · rw [e2 c i (by omega), up_ne (by omega)]
    · by_cases z : i = j
      · rw [z, e2 82 j (by omega), up_eq]
      · rw [e3 i (by omega) h2, up_ne (by omega)]
theorem lpr_back1 : ∀ (n j : Nat) (v : Nat → Nat → Int), j + n = 36 → ∃ v', qG L xs d CX12_back 12 [(2, 63), (0, (j : Int))] [] (qS v) = qG L xs d CX12_back 36 [(2, 63), (0, 36)] [] (qS v') ∧ (∀ c i, ¬ (c = 79 ∧ j ≤ i ∧ i < 36) → v' c i = v c i) ∧ ∀ i, j ≤ i → i < 36 → v' 79 i = v 82 i
  | 0, j, v, hj => by
    have e : j = 36 := by omega
    subst e
    refine ⟨v, ?_, fun _ _ _ => rfl, fun i h1 h2 => by omega⟩
    rw [b_X12_back_12, if_neg (by omega)]
    rfl
  | n + 1, j, v, hj => by
    obtain ⟨v', e1, e2, e3⟩ := lpr_back1 n (j + 1) (pm_up v 79 j (v 82 j)) (by omega)
    refine ⟨v', ?_, fun c i q => ?_, fun i h1 h2 => ?_⟩
    · refine Eq.trans ?_ e1
      rw [b_X12_back_12, if_pos (by omega), b_X12_back_18, if_pos (by omega), Int.toNat_natCast, b_X12_back_29, if_pos (by omega), Int.toNat_natCast, b_X12_back_30, w32_id (by omega) (by omega)]
      rfl
    · rw [e2 c i (by omega), up_ne (by omega)]
    · by_cases z : i = j
      · rw [z, e2 79 j (by omega), up_eq]
      · rw [e3 i (by omega) h2, up_ne (by omega)]
end OC2
