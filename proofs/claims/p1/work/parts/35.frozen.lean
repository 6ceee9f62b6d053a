/-! THE FIRST STATE's calls: frozen -/
section FZ
variable {L : Nat} {xs : Nat → Int} {d : Nat} {v u : Nat → Nat → Int} {w x : Nat} {c : Int}
/-- from the night k on, for so many nights more -/
def frz (a : Int) : Nat → Nat → Int
  | 0, _ => -2
  | n + 1, k => if cN k = 0 then (if a = 0 then 0 else (k : Int)) else frz a n (k + 1)
theorem lp_zero (hI : FrI u v c w x) (hc : c ≠ 0) : ∀ (n j : Nat), j + n = 12 → qG L xs d CX4_firstAtZero 2 [(2, 38), (0, (j : Int))] [] (qS v) = some (some (0, -1), qS v)
  | 0, j, hj => by
    rw [b_X4_firstAtZero_2, hI.2.2.2.2.2.1, if_neg (by omega), b_X4_firstAtZero_27]
  | n + 1, j, hj => by
    have h3 := lp_zero hI hc n (j + 1) (by omega)
    rw [show ((j + 1 : Nat) : Int) = (j : Int) + 1 by omega] at h3
    rw [b_X4_firstAtZero_2, hI.2.2.2.2.2.1, if_pos (by omega), b_X4_firstAtZero_10, fr_ld (pc2 := 16) rfl rfl hI (by omega) (by omega), b_X4_firstAtZero_16, if_neg hc, b_X4_firstAtZero_21, w32_id (by omega) (by omega)]
    exact h3
theorem c_zero (hI : FrI u v c w x) : qE L xs (d + 1) nX4_firstAtZero [(2, 38)] (qS v) = some (some (0, if c = 0 then 0 else -1), qS v) := by
  rw [e_X4_firstAtZero, b_X4_firstAtZero_0]
  by_cases hc : c = 0
  · rw [if_pos hc, b_X4_firstAtZero_2, hI.2.2.2.2.2.1, if_pos (by omega), b_X4_firstAtZero_10, fr_ld (pc2 := 16) rfl rfl hI (by omega) (by omega), b_X4_firstAtZero_16, if_pos hc, b_X4_firstAtZero_19]
  · rw [if_neg hc]
    exact lp_zero hI hc 12 0 (by omega)
theorem lp_frozen (a : Int) : ∀ (m j : Nat) (v : Nat → Nat → Int) (w x : Nat) (u3 : pm_V), j + m = 61 → FrI u v (cN j) w x → ∃ v', qG L xs (d + 4) CX11_frozen 24 [(2, 0), (0, a), (0, (j : Int)), u3] [] (qS v) = some (some (0, frz a m j), qS v') ∧ M0 v'
  | 0, j, v, w, x, u3, hj, hI => by
    refine ⟨v, ?_, FrI_M0 hI⟩
    rw [b_X11_frozen_24, if_pos (by omega), b_X11_frozen_69]
    rfl
  | m + 1, j, v, w, x, u3, hj, hI => by
    have hc := cN_in j
    rw [b_X11_frozen_24, if_neg (by omega), b_X11_frozen_30, c_zero hI, qB_some, psh_some, b_X11_frozen_37]
    unfold frz
    by_cases h0 : cN j = 0
    · refine ⟨v, ?_, FrI_M0 hI⟩
      rw [if_pos h0, if_pos h0, if_neg (by omega), b_X11_frozen_42]
      by_cases ha : a = 0
      · rw [if_pos ha, if_pos ha, b_X11_frozen_46, b_X11_frozen_51]
      · rw [if_neg ha, if_neg ha, b_X11_frozen_50, b_X11_frozen_51]
    · obtain ⟨v1, e1, e2⟩ := c_pass (L := L) (xs := xs) (d := d) hc.1 hc.2 hI
      obtain ⟨v', e3, e4⟩ := lp_frozen a m (j + 1) v1 x w (0, -1) (by omega) (by unfold cN; exact e2)
      refine ⟨v', ?_, e4⟩
      rw [show ((j + 1 : Nat) : Int) = (j : Int) + 1 by omega] at e3
      rw [if_neg h0, if_neg h0, if_pos (by omega), b_X11_frozen_52, e1, qB_some, psh_none, b_X11_frozen_63, w32_id (by omega) (by omega)]
      exact e3
theorem lp_mzero (a k : Int) (h : M0 v) (h7 : ∀ i, i < 12 → v 77 i = c) (hc : c ≠ 0) : ∀ (n j : Nat), j + n = 12 → qG L xs (d + 1) CX12_frozen 26 [(2, 63), (0, a), (0, k), (0, (j : Int))] [] (qS v) = qG L xs (d + 1) CX12_frozen 59 [(2, 63), (0, a), (0, k), (0, 12)] [] (qS v)
  | 0, j, hj => by
    rw [b_X12_frozen_26, c_yardMany, qB_some, psh_some, b_X12_frozen_31, g_64_140 h, if_neg (by omega), show (j : Int) = 12 by omega]
  | n + 1, j, hj => by
    have h3 := lp_mzero a k h h7 hc n (j + 1) (by omega)
    rw [show ((j + 1 : Nat) : Int) = (j : Int) + 1 by omega] at h3
    rw [b_X12_frozen_26, c_yardMany, qB_some, psh_some, b_X12_frozen_31, g_64_140 h, if_pos (by omega), b_X12_frozen_34, if_pos (by omega), h7 _ (by omega), b_X12_frozen_40, if_neg hc, b_X12_frozen_53, w32_id (by omega) (by omega)]
    exact h3
theorem lp_mfrozen (a : Int) : ∀ (m j : Nat) (v : Nat → Nat → Int) (u3 : pm_V), j + m = 61 → M0 v → (∀ i, i < 12 → v 77 i = cN j) → ∃ v', qG L xs (d + 4) CX12_frozen 18 [(2, 63), (0, a), (0, (j : Int)), u3] [] (qS v) = some (some (0, frz a m j), qS v')
  | 0, j, v, u3, hj, h, h7 => by
    refine ⟨v, ?_⟩
    rw [b_X12_frozen_18, if_pos (by omega), b_X12_frozen_69]
    rfl
  | m + 1, j, v, u3, hj, h, h7 => by
    have hc := cN_in j
    rw [b_X12_frozen_18, if_neg (by omega), b_X12_frozen_24]
    unfold frz
    by_cases h0 : cN j = 0
    · refine ⟨v, ?_⟩
      rw [if_pos h0, b_X12_frozen_26, c_yardMany, qB_some, psh_some, b_X12_frozen_31, g_64_140 h, if_pos (by omega), b_X12_frozen_34, if_pos (by omega), h7 _ (by omega), b_X12_frozen_40, if_pos h0, b_X12_frozen_43]
      by_cases ha : a = 0
      · rw [if_pos ha, if_pos ha, b_X12_frozen_47, b_X12_frozen_52]
      · rw [if_neg ha, if_neg ha, b_X12_frozen_51, b_X12_frozen_52]
    · obtain ⟨v1, e1, e2, e5⟩ := m_freezes (L := L) (xs := xs) (d := d) hc.1 hc.2 h h7
      obtain ⟨v', e3⟩ := lp_mfrozen a m (j + 1) v1 (0, 12) (by omega) e2 (by unfold cN; exact e5)
      have l := lp_mzero (L := L) (xs := xs) (d := d + 3) a (j : Int) h h7 h0 12 0 (by omega)
      refine ⟨v', ?_⟩
      rw [show ((j + 1 : Nat) : Int) = (j : Int) + 1 by omega] at e3
      rw [if_neg h0]
      refine Eq.trans l ?_
      rw [b_X12_frozen_59, e1, qB_some, psh_none, b_X12_frozen_63, w32_id (by omega) (by omega)]
      exact e3
theorem op_19 (h : Fresh v) (a : Int) : pOK 6 xs v nX11_frozen nX12_frozen 0 [(0, a)] := by
  refine pok (r := if 0 ≤ a ∧ a ≤ 1 then frz a 61 0 else -1) ?_ (fun v h => ?_)
  · by_cases h1 : 0 ≤ a ∧ a ≤ 1
    · rw [if_pos h1]
      obtain ⟨v1, e1, e2⟩ := c_begin (L := 6) (xs := xs) (d := 995) h
      obtain ⟨v', e3, e4⟩ := lp_frozen (L := 6) (xs := xs) (d := 995) a 61 0 v1 39 40 (9, 0) (by omega) e2
      refine ⟨v', e4, ?_⟩
      rw [e_X11_frozen, b_X11_frozen_0, if_neg (by omega), b_X11_frozen_4, if_neg (by omega), b_X11_frozen_11, e1, qB_some, psh_none, b_X11_frozen_22]
      exact e3
    · rw [if_neg h1]
      refine ⟨v, M0_of h, ?_⟩
      rw [e_X11_frozen, b_X11_frozen_0]
      by_cases h2 : a < 0
      · rw [if_pos h2, b_X11_frozen_9]
      · rw [if_neg h2, b_X11_frozen_4, if_pos (by omega), b_X11_frozen_9]
  · by_cases h1 : 0 ≤ a ∧ a ≤ 1
    · rw [if_pos h1]
      obtain ⟨v1, e1, e2, e5⟩ := m_begin (L := 6) (xs := xs) (d := 995) h
      obtain ⟨v', e3⟩ := lp_mfrozen (L := 6) (xs := xs) (d := 995) a 61 0 v1 (9, 0) (by omega) e2 e5
      refine ⟨v', ?_⟩
      rw [e_X12_frozen, b_X12_frozen_0, c_within, qB_some, psh_some, b_X12_frozen_7, zb_0, if_pos h1, b_X12_frozen_12, e1, qB_some, psh_none, b_X12_frozen_16]
      exact e3
    · rw [if_neg h1]
      refine ⟨v, ?_⟩
      rw [e_X12_frozen, b_X12_frozen_0, c_within, qB_some, psh_some, b_X12_frozen_7, zb_0, if_neg h1, b_X12_frozen_10]
end FZ
