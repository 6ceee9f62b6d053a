/-! FROST in general: the reference's nights; frost and frozen keep the relation -/
section OO3
variable {L : Nat} {xs : Nat → Int} {d : Nat} {v u : Nat → Nat → Int} {w x Y : Nat} {W : Nat → Int}
/-- the reference's cells while the nights pass -/
def MrG (u v : Nat → Nat → Int) (Y : Nat) (W : Nat → Int) : Prop := (∀ t k, t ≠ 77 ∧ t ≠ 78 → v t k = u t k) ∧ ∀ i, i < Y → v 77 i = W i
theorem lpr_mbegin (hY : Y ≤ 30) (h14 : u 64 140 = (Y : Int)) : ∀ (n j : Nat) (v : Nat → Nat → Int), j + n = Y → MrG u v j (fun i => u 64 (30 + i)) → ∃ v', qG L xs (d + 3) CX12_beginsFrost 2 [(2, 63), (0, (j : Int))] [] (qS v) = some (none, qS v') ∧ MrG u v' Y (fun i => u 64 (30 + i))
  | 0, j, v, hj, h => by
    obtain rfl : j = Y := by omega
    refine ⟨v, ?_, h⟩
    rw [b_X12_beginsFrost_2, c_yardMany, qB_some, psh_some, b_X12_beginsFrost_7, h.1 64 140 (by omega), h14, if_neg (by omega), b_X12_beginsFrost_27]
  | n + 1, j, v, hj, h => by
    obtain ⟨v', e1, e2⟩ := lpr_mbegin hY h14 n (j + 1) (pm_up v 77 (j : Int).toNat (u 64 (30 + j))) (by omega) ⟨fun t k ht => by rw [up_ne (by omega)]; exact h.1 t k ht, fun i hi => by
      by_cases hij : i = j
      · rw [hij, show (j : Int).toNat = j by omega, up_eq]
      · rw [up_ne (by omega)]; exact h.2 i (by omega)⟩
    refine ⟨v', Eq.trans ?_ e1, e2⟩
    rw [show ((j + 1 : Nat) : Int) = (j : Int) + 1 by omega]
    rw [b_X12_beginsFrost_2, c_yardMany, qB_some, psh_some, b_X12_beginsFrost_7, h.1 64 140 (by omega), h14, if_pos (by omega), b_X12_beginsFrost_10, m_warmOf (by omega) (by omega), qB_some, psh_some, h.1 64 _ (by omega), show (30 + (j : Int)).toNat = 30 + j by omega, b_X12_beginsFrost_20, if_pos (by omega), b_X12_beginsFrost_21, w32_id (by omega) (by omega)]
theorem mr_begin (hY : Y ≤ 30) (h14 : v 64 140 = (Y : Int)) : ∃ v', qE L xs (d + 4) nX12_beginsFrost [(2, 63)] (qS v) = some (none, qS v') ∧ MrG v v' Y (fun i => v 64 (30 + i)) := by
  rw [e_X12_beginsFrost, b_X12_beginsFrost_0]
  exact lpr_mbegin hY h14 Y 0 v (by omega) ⟨fun _ _ _ => rfl, fun i hi => absurd hi (by omega)⟩
/-- the reference's wall -/
def MW (u : Nat → Nat → Int) (Y : Nat) (C : Int) (T : Nat → Int) : Prop := u 64 140 = (Y : Int) ∧ u 64 142 = C ∧ (∀ i, i < 30 → u 64 i = T i) ∧ Y ≤ 30 ∧ (0 ≤ C ∧ C ≤ 9) ∧ ∀ i, i < 30 → 1 ≤ T i ∧ T i ≤ 9
theorem lpr_mfr1 {C : Int} {T : Nat → Int} (hM : MW u Y C T) (hW : ∀ i, i < Y → 0 ≤ W i ∧ W i ≤ 99) : ∀ (n j : Nat) (v : Nat → Nat → Int) (u3 u4 u5 : pm_V), j + n = Y → MrG u v Y W → (∀ i, i < j → v 78 i = nxW C T Y W i) → ∃ v' w3 w4 w5, qG L xs (d + 3) CX12_freezes 7 [(2, 63), (0, (Y : Int)), (0, (j : Int)), u3, u4, u5] [] (qS v) = qG L xs (d + 3) CX12_freezes 120 [(2, 63), (0, (Y : Int)), (0, (Y : Int)), w3, w4, w5] [] (qS v') ∧ MrG u v' Y W ∧ ∀ i, i < Y → v' 78 i = nxW C T Y W i
  | 0, j, v, u3, u4, u5, hj, h, h8 => by
    refine ⟨v, u3, u4, u5, ?_, h, fun i hi => h8 i (by omega)⟩
    rw [b_X12_freezes_7, if_neg (by omega), show (j : Int) = Y by omega]
  | n + 1, j, v, u3, u4, u5, hj, h, h8 => by
    obtain ⟨h1, h2, h3, hY, hC, hT⟩ := hM
    obtain ⟨v', w3, w4, w5, e1, e2, e3⟩ := lpr_mfr1 ⟨h1, h2, h3, hY, hC, hT⟩ hW n (j + 1) (pm_up v 78 (j : Int).toNat (nxW C T Y W j)) (0, bwW W j) (0, abW Y W j) (0, (2 * W j + bwW W j + abW Y W j) / 4 - lsW C T j) (by omega) ⟨fun t k ht => by rw [up_ne (by omega)]; exact h.1 t k ht, fun i hi => by rw [up_ne (by omega)]; exact h.2 i hi⟩ (fun i hi => by
      by_cases hij : i = j
      · rw [hij, show (j : Int).toNat = j by omega, up_eq]
      · rw [up_ne (by omega)]; exact h8 i (by omega))
    refine ⟨v', w3, w4, w5, Eq.trans ?_ e1, e2, e3⟩
    rw [show ((j + 1 : Nat) : Int) = (j : Int) + 1 by omega]
    have a1 : qG L xs (d + 3) CX12_freezes 7 [(2, 63), (0, (Y : Int)), (0, (j : Int)), u3, u4, u5] [] (qS v) = qG L xs (d + 3) CX12_freezes 33 [(2, 63), (0, (Y : Int)), (0, (j : Int)), u3, u4, u5] [(0, bwW W j)] (qS v) := by
      unfold bwW
      rw [b_X12_freezes_7, if_pos (by omega), b_X12_freezes_12]
      by_cases hj0 : 0 < j
      · rw [if_pos (by omega), if_pos hj0, b_X12_freezes_16, w32_id (by omega) (by omega), if_pos (by omega), b_X12_freezes_24, show ((j : Int) - 1).toNat = j - 1 by omega, h.2 _ (by omega)]
      · rw [if_neg (by omega), if_neg hj0, b_X12_freezes_27, if_pos (by omega), Int.toNat_natCast, h.2 _ (by omega)]
    have a2 : qG L xs (d + 3) CX12_freezes 33 [(2, 63), (0, (Y : Int)), (0, (j : Int)), u3, u4, u5] [(0, bwW W j)] (qS v) = qG L xs (d + 3) CX12_freezes 58 [(2, 63), (0, (Y : Int)), (0, (j : Int)), (0, bwW W j), u4, u5] [(0, abW Y W j)] (qS v) := by
      unfold abW
      rw [b_X12_freezes_33, w32_id (by omega) (by omega)]
      by_cases hj0 : j + 1 < Y
      · rw [if_pos (by omega), if_pos hj0, b_X12_freezes_41, w32_id (by omega) (by omega), if_pos (by omega), b_X12_freezes_49, show ((j : Int) + 1).toNat = j + 1 by omega, h.2 _ (by omega)]
      · rw [if_neg (by omega), if_neg hj0, b_X12_freezes_52, if_pos (by omega), Int.toNat_natCast, h.2 _ (by omega)]
    have hTj := hT j (by omega)
    have hL := lsW_in (y := j) hC hTj
    have kA := hW j (by omega)
    have kB := bwW_in hW (show j < Y by omega)
    have kD := abW_in hW (show j < Y by omega)
    have num : w32 (w32 (Int.tdiv (w32 (w32 (w32 (2 * W j) + bwW W j) + abW Y W j)) 4) - w32 (C * w32 (Int.tdiv (w32 (9 - T j)) 3))) = (2 * W j + bwW W j + abW Y W j) / 4 - lsW C T j := by
      have hL2 := hL
      unfold lsW at hL2
      rw [w32_id (z := 2 * W j) (by omega) (by omega), w32_id (z := 2 * W j + bwW W j) (by omega) (by omega), w32_id (z := 2 * W j + bwW W j + abW Y W j) (by omega) (by omega), td_pos 4 (by omega), w32_id (z := 9 - T j) (by omega) (by omega), td_pos 3 (by omega), w32_id (z := (9 - T j) / 3) (by omega) (by omega), w32_id (z := (2 * W j + bwW W j + abW Y W j) / 4) (by omega) (by omega), w32_id (z := C * ((9 - T j) / 3)) (by omega) (by omega), w32_id (by omega) (by omega)]
      rfl
    rw [a1, a2, b_X12_freezes_58, if_pos (by omega), Int.toNat_natCast, h.2 j (by omega), b_X12_freezes_67, m_thickOf (by omega) (by omega), qB_some, psh_some, Int.toNat_natCast, h.1 64 j (by omega), h3 j (by omega), h.1 64 142 (by omega), h2, b_X12_freezes_90, num]
    by_cases hc : (2 * W j + bwW W j + abW Y W j) / 4 - lsW C T j < 0
    · rw [if_pos hc, b_X12_freezes_107, b_X12_freezes_113, if_pos (by omega), Int.toNat_natCast, b_X12_freezes_114, w32_id (by omega) (by omega)]
      unfold nxW
      rw [if_pos hc]
    · rw [if_neg hc, b_X12_freezes_111, b_X12_freezes_113, if_pos (by omega), Int.toNat_natCast, b_X12_freezes_114, w32_id (by omega) (by omega)]
      unfold nxW
      rw [if_neg hc]
theorem lpr_mfr2 {N : Nat → Int} (hY : Y ≤ 30) : ∀ (n j : Nat) (v : Nat → Nat → Int) (u3 u4 u5 : pm_V), j + n = Y → (∀ t k, t ≠ 77 ∧ t ≠ 78 → v t k = u t k) → (∀ i, i < Y → v 78 i = N i) → (∀ i, i < j → v 77 i = N i) → ∃ v', qG L xs (d + 3) CX12_freezes 122 [(2, 63), (0, (Y : Int)), (0, (j : Int)), u3, u4, u5] [] (qS v) = some (none, qS v') ∧ MrG u v' Y N
  | 0, j, v, u3, u4, u5, hj, h, h7, h8 => by
    refine ⟨v, ?_, h, fun i hi => h8 i (by omega)⟩
    rw [b_X12_freezes_122, if_neg (by omega), b_X12_freezes_145]
  | n + 1, j, v, u3, u4, u5, hj, h, h7, h8 => by
    obtain ⟨v', e1, e2⟩ := lpr_mfr2 (N := N) hY n (j + 1) (pm_up v 77 (j : Int).toNat (N j)) u3 u4 u5 (by omega) (fun t k ht => by rw [up_ne (by omega)]; exact h t k ht) (fun i hi => by rw [up_ne (by omega)]; exact h7 i hi) (fun i hi => by
      by_cases hij : i = j
      · rw [hij, show (j : Int).toNat = j by omega, up_eq]
      · rw [up_ne (by omega)]; exact h8 i (by omega))
    refine ⟨v', Eq.trans ?_ e1, e2⟩
    rw [show ((j + 1 : Nat) : Int) = (j : Int) + 1 by omega]
    rw [b_X12_freezes_122, if_pos (by omega), b_X12_freezes_127, if_pos (by omega), h7 _ (by omega), Int.toNat_natCast, b_X12_freezes_138, if_pos (by omega), b_X12_freezes_139, w32_id (by omega) (by omega)]
    rfl
theorem mr_freezes {C : Int} {T : Nat → Int} (hM : MW u Y C T) (hW : ∀ i, i < Y → 0 ≤ W i ∧ W i ≤ 99) (h : MrG u v Y W) : ∃ v', qE L xs (d + 4) nX12_freezes [(2, 63)] (qS v) = some (none, qS v') ∧ MrG u v' Y (nxW C T Y W) := by
  obtain ⟨v1, w3, w4, w5, e1, e2, e3⟩ := lpr_mfr1 (L := L) (xs := xs) (d := d) hM hW Y 0 v (9, 0) (9, 0) (9, 0) (by omega) h (fun i hi => absurd hi (by omega))
  obtain ⟨v', e4, e5⟩ := lpr_mfr2 (L := L) (xs := xs) (d := d) (u := u) hM.2.2.2.1 Y 0 v1 w3 w4 w5 (by omega) e2.1 e3 (fun i hi => absurd hi (by omega))
  refine ⟨v', ?_, e5⟩
  rw [e_X12_freezes, b_X12_freezes_0, c_yardMany, qB_some, psh_some, b_X12_freezes_4, h.1 64 140 (by omega), hM.1]
  refine Eq.trans e1 ?_
  rw [b_X12_freezes_120]
  exact e4
/-- the nights that pass in frost() -/
theorem lpr_frost (hu : rlW u) (hY : Y ≤ 30) (hW : ∀ i, i < Y → 0 ≤ W i ∧ W i ≤ 99) (n : Int) (y : Nat) (hy2 : y < Y) (hn : n ≤ 60) : ∀ (m j : Nat) (v : Nat → Nat → Int) (w x : Nat), (j : Int) + m = n → FrG u v Y (ntW (u 13 0) (u 3) Y W j) w x → ∃ v' w' x', qG L xs (d + 4) CX11_frost 36 [(2, 0), (0, n), (0, (y : Int)), (0, (j : Int))] [] (qS v) = some (some (0, ntW (u 13 0) (u 3) Y W (j + m) y), qS v') ∧ FrG u v' Y (ntW (u 13 0) (u 3) Y W (j + m)) w' x'
  | 0, j, v, w, x, hj, hI => by
    refine ⟨v, w, x, ?_, hI⟩
    have hw : qE L xs (d + 4) nX4_warmth [(2, 38), (0, (y : Int))] (qS v) = some (some (0, ntW (u 13 0) (u 3) Y W j y), qS v) := by
      rw [e_X4_warmth, b_X4_warmth_0, if_neg (by omega), b_X4_warmth_4, hI.2.2.2.2.1, if_pos (by omega), b_X4_warmth_12, frg_ld (pc2 := 18) rfl rfl hI hY (by omega) (by omega), b_X4_warmth_18, b_X4_warmth_22, Int.toNat_natCast]
    rw [b_X11_frost_36, if_neg (by omega), b_X11_frost_58, hw, qB_some, psh_some, b_X11_frost_66]
    rfl
  | m + 1, j, v, w, x, hj, hI => by
    have hc := ntW_in (rW_C hu) (fun i hi => rW_t hu i hi) hY hW j
    obtain ⟨v1, e1, e2⟩ := cr_pass (L := L) (xs := xs) (d := d) hu hY hc hI
    obtain ⟨v', w', x', e3, e4⟩ := lpr_frost hu hY hW n y hy2 hn m (j + 1) v1 x w (by omega) e2
    rw [show j + 1 + m = j + (m + 1) by omega] at e4
    refine ⟨v', w', x', ?_, e4⟩
    rw [show ((j + 1 : Nat) : Int) = (j : Int) + 1 by omega, show j + 1 + m = j + (m + 1) by omega] at e3
    rw [b_X11_frost_36, if_pos (by omega), b_X11_frost_41, e1, qB_some, psh_none, b_X11_frost_52, w32_id (by omega) (by omega)]
    exact e3
theorem lpr_mfrost {C : Int} {T : Nat → Int} (hM : MW u Y C T) (hW : ∀ i, i < Y → 0 ≤ W i ∧ W i ≤ 99) (n : Int) (y : Nat) (hy2 : y < Y) (hn : n ≤ 60) : ∀ (m j : Nat) (v : Nat → Nat → Int), (j : Int) + m = n → MrG u v Y (ntW C T Y W j) → ∃ v', qG L xs (d + 4) CX12_frost 29 [(2, 63), (0, n), (0, (y : Int)), (0, (j : Int))] [] (qS v) = some (some (0, ntW C T Y W (j + m) y), qS v') ∧ MrG u v' Y (ntW C T Y W (j + m))
  | 0, j, v, hj, h => by
    have hY := hM.2.2.2.1
    refine ⟨v, ?_, h⟩
    rw [b_X12_frost_29, if_neg (by omega), b_X12_frost_44, if_pos (by omega), Int.toNat_natCast, h.2 _ (by omega), b_X12_frost_50]
    rfl
  | m + 1, j, v, hj, h => by
    have hc := ntW_in hM.2.2.2.2.1 hM.2.2.2.2.2 hM.2.2.2.1 hW j
    obtain ⟨v1, e1, e2⟩ := mr_freezes (L := L) (xs := xs) (d := d) hM hc h
    obtain ⟨v', e3, e4⟩ := lpr_mfrost hM hW n y hy2 hn m (j + 1) v1 (by omega) e2
    rw [show j + 1 + m = j + (m + 1) by omega] at e4
    refine ⟨v', ?_, e4⟩
    rw [show ((j + 1 : Nat) : Int) = (j : Int) + 1 by omega, show j + 1 + m = j + (m + 1) by omega] at e3
    rw [b_X12_frost_29, if_pos (by omega), b_X12_frost_34, e1, qB_some, psh_none, b_X12_frost_38, w32_id (by omega) (by omega)]
    exact e3
end OO3
