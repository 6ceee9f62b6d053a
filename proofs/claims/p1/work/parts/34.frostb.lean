/-! THE FIRST STATE's calls: frost and frozen -/
section FP
variable {L : Nat} {xs : Nat → Int} {d : Nat} {v u : Nat → Nat → Int} {w x : Nat} {c : Int}
theorem fr_rg_cg {v w : Nat → Nat → Int} {c k : Nat} {z : Int} (h : ∀ i, w c i = v c i) : ∀ n, fr_rg w c k z n = fr_rg v c k z n
  | 0 => rfl
  | n + 1 => by
    unfold fr_rg
    rw [h, fr_rg_cg h n]
theorem Fresh_up {t k : Nat} {z : Int} (h : Fresh u) (ht : fr_facts.all (fun q => decide (q.1 ≠ t)) = true) : Fresh (pm_up u t k z) := by
  refine List.all_eq_true.mpr (fun q hq => ?_)
  have h1 := List.all_eq_true.mp h q hq
  have h2 : q.1 ≠ t := of_decide_eq_true (List.all_eq_true.mp ht q hq)
  have h3 : fr_rg (pm_up u t k z) q.1 q.2.1 q.2.2.2 q.2.2.1 = fr_rg u q.1 q.2.1 q.2.2.2 q.2.2.1 := fr_rg_cg (fun i => up_ne (Or.inl h2)) _
  show fr_rg (pm_up u t k z) q.1 q.2.1 q.2.2.2 q.2.2.1 = true
  rw [h3]
  exact h1
/-- a number written that no fact speaks of -/
theorem M0_upm {t k : Nat} {z : Int} (h : M0 v) (ht : fr_facts.all (fun q => decide (q.1 ≠ t)) = true) : M0 (pm_up v t k z) := by
  obtain ⟨u, h1, h2⟩ := h
  refine ⟨pm_up u t k z, Fresh_up h1 ht, fun c i hc => ?_⟩
  unfold pm_up
  rw [h2 c i hc]
def cN : Nat → Int
  | 0 => 50
  | k + 1 => if cN k < 1 then 0 else cN k - 1
theorem cN_in : ∀ k, 0 ≤ cN k ∧ cN k ≤ 50
  | 0 => ⟨by decide, by decide⟩
  | k + 1 => by
    have h := cN_in k
    unfold cN
    by_cases h1 : cN k < 1
    · rw [if_pos h1]; omega
    · rw [if_neg h1]; omega
theorem lp_frost (n y : Int) (hy : 0 ≤ y) (hy2 : y < 12) (hn : n ≤ 60) : ∀ (m j : Nat) (v : Nat → Nat → Int) (w x : Nat), (j : Int) + m = n → FrI u v (cN j) w x → ∃ v', qG L xs (d + 4) CX11_frost 36 [(2, 0), (0, n), (0, y), (0, (j : Int))] [] (qS v) = some (some (0, cN (j + m)), qS v') ∧ M0 v'
  | 0, j, v, w, x, hj, hI => by
    refine ⟨v, ?_, FrI_M0 hI⟩
    have hw : qE L xs (d + 4) nX4_warmth [(2, 38), (0, y)] (qS v) = some (some (0, cN j), qS v) := by
      rw [e_X4_warmth, b_X4_warmth_0, if_neg (by omega), b_X4_warmth_4, hI.2.2.2.2.2.1, if_pos hy2, b_X4_warmth_12, fr_ld (pc2 := 18) rfl rfl hI hy hy2, b_X4_warmth_18, b_X4_warmth_22]
    rw [b_X11_frost_36, if_neg (by omega), b_X11_frost_58, hw, qB_some, psh_some, b_X11_frost_66]
    rfl
  | m + 1, j, v, w, x, hj, hI => by
    have hc := cN_in j
    obtain ⟨v1, e1, e2⟩ := c_pass (L := L) (xs := xs) (d := d) hc.1 hc.2 hI
    obtain ⟨v', e3, e4⟩ := lp_frost n y hy hy2 hn m (j + 1) v1 x w (by omega) (by unfold cN; exact e2)
    refine ⟨v', ?_, e4⟩
    rw [show ((j + 1 : Nat) : Int) = (j : Int) + 1 by omega, show j + 1 + m = j + (m + 1) by omega] at e3
    rw [b_X11_frost_36, if_pos (by omega), b_X11_frost_41, e1, qB_some, psh_none, b_X11_frost_52, w32_id (by omega) (by omega)]
    exact e3
theorem mu77 : fr_facts.all (fun q => decide (q.1 ≠ 77)) = true := by decide
theorem mu78 : fr_facts.all (fun q => decide (q.1 ≠ 78)) = true := by decide
theorem lp_mbegin : ∀ (n j : Nat) (v : Nat → Nat → Int), j + n = 12 → M0 v → (∀ i, i < j → v 77 i = 50) → ∃ v', qG L xs (d + 3) CX12_beginsFrost 2 [(2, 63), (0, (j : Int))] [] (qS v) = some (none, qS v') ∧ M0 v' ∧ ∀ i, i < 12 → v' 77 i = 50
  | 0, j, v, hj, h, h7 => by
    refine ⟨v, ?_, h, fun i hi => h7 i (by omega)⟩
    rw [b_X12_beginsFrost_2, c_yardMany, qB_some, psh_some, b_X12_beginsFrost_7, g_64_140 h, if_neg (by omega), b_X12_beginsFrost_27]
  | n + 1, j, v, hj, h, h7 => by
    obtain ⟨v', e1, e2, e3⟩ := lp_mbegin n (j + 1) (pm_up v 77 (j : Int).toNat 50) (by omega) (M0_upm h mu77) (fun i hi => by
      by_cases hij : i = j
      · rw [hij, show (j : Int).toNat = j by omega, up_eq]
      · rw [up_ne (by omega)]; exact h7 i (by omega))
    refine ⟨v', Eq.trans ?_ e1, e2, e3⟩
    rw [show ((j + 1 : Nat) : Int) = (j : Int) + 1 by omega]
    rw [b_X12_beginsFrost_2, c_yardMany, qB_some, psh_some, b_X12_beginsFrost_7, g_64_140 h, if_pos (by omega), b_X12_beginsFrost_10, m_warmOf (by omega) (by omega), qB_some, psh_some, g_64_30_r h _ (by omega) (by omega), b_X12_beginsFrost_20, if_pos (by omega), b_X12_beginsFrost_21, w32_id (by omega) (by omega)]
theorem m_begin (h : M0 v) : ∃ v', qE L xs (d + 4) nX12_beginsFrost [(2, 63)] (qS v) = some (none, qS v') ∧ M0 v' ∧ ∀ i, i < 12 → v' 77 i = 50 := by
  rw [e_X12_beginsFrost, b_X12_beginsFrost_0]
  exact lp_mbegin 12 0 v (by omega) h (fun i hi => absurd hi (by omega))
theorem lp_mfr1 (hc0 : 0 ≤ c) (hc1 : c ≤ 50) : ∀ (n j : Nat) (v : Nat → Nat → Int) (u3 u4 u5 : pm_V), j + n = 12 → M0 v → (∀ i, i < 12 → v 77 i = c) → (∀ i, i < j → v 78 i = if c < 1 then 0 else c - 1) → ∃ v' w3 w4 w5, qG L xs (d + 3) CX12_freezes 7 [(2, 63), (0, 12), (0, (j : Int)), u3, u4, u5] [] (qS v) = qG L xs (d + 3) CX12_freezes 120 [(2, 63), (0, 12), (0, 12), w3, w4, w5] [] (qS v') ∧ M0 v' ∧ ∀ i, i < 12 → v' 78 i = if c < 1 then 0 else c - 1
  | 0, j, v, u3, u4, u5, hj, h, h7, h8 => by
    refine ⟨v, u3, u4, u5, ?_, h, fun i hi => h8 i (by omega)⟩
    rw [b_X12_freezes_7, if_neg (by omega), show (j : Int) = 12 by omega]
  | n + 1, j, v, u3, u4, u5, hj, h, h7, h8 => by
    obtain ⟨v', w3, w4, w5, e1, e2, e3⟩ := lp_mfr1 hc0 hc1 n (j + 1) (pm_up v 78 (j : Int).toNat (if c < 1 then 0 else c - 1)) (0, c) (0, c) (0, c - 1) (by omega) (M0_upm h mu78) (fun i hi => by rw [up_ne (by omega)]; exact h7 i hi) (fun i hi => by
      by_cases hij : i = j
      · rw [hij, show (j : Int).toNat = j by omega, up_eq]
      · rw [up_ne (by omega)]; exact h8 i (by omega))
    refine ⟨v', w3, w4, w5, Eq.trans ?_ e1, e2, e3⟩
    rw [show ((j + 1 : Nat) : Int) = (j : Int) + 1 by omega]
    have a1 : qG L xs (d + 3) CX12_freezes 7 [(2, 63), (0, 12), (0, (j : Int)), u3, u4, u5] [] (qS v) = qG L xs (d + 3) CX12_freezes 33 [(2, 63), (0, 12), (0, (j : Int)), u3, u4, u5] [(0, c)] (qS v) := by
      by_cases hj0 : 0 < (j : Int)
      · simp (disch := omega) only [b_X12_freezes_7, b_X12_freezes_12, b_X12_freezes_16, b_X12_freezes_24, if_pos, h7, w32_id]
      · simp (disch := omega) only [b_X12_freezes_7, b_X12_freezes_12, b_X12_freezes_27, if_pos, if_neg, h7]
    have a2 : qG L xs (d + 3) CX12_freezes 33 [(2, 63), (0, 12), (0, (j : Int)), u3, u4, u5] [(0, c)] (qS v) = qG L xs (d + 3) CX12_freezes 58 [(2, 63), (0, 12), (0, (j : Int)), (0, c), u4, u5] [(0, c)] (qS v) := by
      by_cases hj0 : (j : Int) + 1 < 12
      · simp (disch := omega) only [b_X12_freezes_33, b_X12_freezes_41, b_X12_freezes_49, if_pos, h7, w32_id]
      · simp (disch := omega) only [b_X12_freezes_33, b_X12_freezes_52, if_pos, if_neg, h7, w32_id]
    rw [a1, a2]
    have e4 := g_64_0_r h (j : Int).toNat (by omega) (by omega)
    by_cases hc : c < 1
    · conv => lhs; simp (disch := omega) only [b_X12_freezes_58, b_X12_freezes_67, b_X12_freezes_90, b_X12_freezes_107, b_X12_freezes_113, if_pos, if_neg, h7, w32_id, m_thickOf, e4, g_64_142 h, td_pos, Int.reduceSub, Int.reduceDiv, Int.reduceMul, qB_some, psh_some, psh_none, and_true, true_and, and_false, false_and, and_self, or_true, true_or, or_false, false_or, not_true_eq_false, not_false_eq_true, ↓reduceIte, Int.reduceEq, Int.reduceLT, Int.reduceLE, Int.reduceToNat, Nat.reduceEqDiff, Nat.reduceAdd]
      rw [b_X12_freezes_114, w32_id (by omega) (by omega), if_pos hc, show (2 * c + c + c) / 4 - 1 = c - 1 by omega]
    · conv => lhs; simp (disch := omega) only [b_X12_freezes_58, b_X12_freezes_67, b_X12_freezes_90, b_X12_freezes_111, b_X12_freezes_113, if_pos, if_neg, h7, w32_id, m_thickOf, e4, g_64_142 h, td_pos, Int.reduceSub, Int.reduceDiv, Int.reduceMul, qB_some, psh_some, psh_none, and_true, true_and, and_false, false_and, and_self, or_true, true_or, or_false, false_or, not_true_eq_false, not_false_eq_true, ↓reduceIte, Int.reduceEq, Int.reduceLT, Int.reduceLE, Int.reduceToNat, Nat.reduceEqDiff, Nat.reduceAdd]
      rw [b_X12_freezes_114, w32_id (by omega) (by omega), if_neg hc, show (2 * c + c + c) / 4 - 1 = c - 1 by omega]
theorem lp_mfr2 : ∀ (n j : Nat) (v : Nat → Nat → Int) (u3 u4 u5 : pm_V), j + n = 12 → M0 v → (∀ i, i < 12 → v 78 i = c) → (∀ i, i < j → v 77 i = c) → ∃ v', qG L xs (d + 3) CX12_freezes 122 [(2, 63), (0, 12), (0, (j : Int)), u3, u4, u5] [] (qS v) = some (none, qS v') ∧ M0 v' ∧ ∀ i, i < 12 → v' 77 i = c
  | 0, j, v, u3, u4, u5, hj, h, h7, h8 => by
    refine ⟨v, ?_, h, fun i hi => h8 i (by omega)⟩
    rw [b_X12_freezes_122, if_neg (by omega), b_X12_freezes_145]
  | n + 1, j, v, u3, u4, u5, hj, h, h7, h8 => by
    obtain ⟨v', e1, e2, e3⟩ := lp_mfr2 n (j + 1) (pm_up v 77 (j : Int).toNat c) u3 u4 u5 (by omega) (M0_upm h mu77) (fun i hi => by rw [up_ne (by omega)]; exact h7 i hi) (fun i hi => by
      by_cases hij : i = j
      · rw [hij, show (j : Int).toNat = j by omega, up_eq]
      · rw [up_ne (by omega)]; exact h8 i (by omega))
    refine ⟨v', Eq.trans ?_ e1, e2, e3⟩
    rw [show ((j + 1 : Nat) : Int) = (j : Int) + 1 by omega]
    rw [b_X12_freezes_122, if_pos (by omega), b_X12_freezes_127, if_pos (by omega), h7 _ (by omega), b_X12_freezes_138, if_pos (by omega), b_X12_freezes_139, w32_id (by omega) (by omega)]
theorem m_freezes (hc0 : 0 ≤ c) (hc1 : c ≤ 50) (h : M0 v) (h7 : ∀ i, i < 12 → v 77 i = c) : ∃ v', qE L xs (d + 4) nX12_freezes [(2, 63)] (qS v) = some (none, qS v') ∧ M0 v' ∧ ∀ i, i < 12 → v' 77 i = if c < 1 then 0 else c - 1 := by
  obtain ⟨v1, w3, w4, w5, e1, e2, e3⟩ := lp_mfr1 (L := L) (xs := xs) (d := d) hc0 hc1 12 0 v (9, 0) (9, 0) (9, 0) (by omega) h h7 (fun i hi => absurd hi (by omega))
  obtain ⟨v', e4, e5, e6⟩ := lp_mfr2 (L := L) (xs := xs) (d := d) 12 0 v1 w3 w4 w5 (by omega) e2 e3 (fun i hi => absurd hi (by omega))
  refine ⟨v', ?_, e5, e6⟩
  rw [e_X12_freezes, b_X12_freezes_0, c_yardMany, qB_some, psh_some, b_X12_freezes_4, g_64_140 h]
  refine Eq.trans e1 ?_
  rw [b_X12_freezes_120]
  exact e4
theorem lp_mfrost (n y : Int) (hy : 0 ≤ y) (hy2 : y < 12) (hn : n ≤ 60) : ∀ (m j : Nat) (v : Nat → Nat → Int), (j : Int) + m = n → M0 v → (∀ i, i < 12 → v 77 i = cN j) → ∃ v', qG L xs (d + 4) CX12_frost 29 [(2, 63), (0, n), (0, y), (0, (j : Int))] [] (qS v) = some (some (0, cN (j + m)), qS v')
  | 0, j, v, hj, h, h7 => by
    refine ⟨v, ?_⟩
    rw [b_X12_frost_29, if_neg (by omega), b_X12_frost_44, if_pos (by omega), h7 _ (by omega), b_X12_frost_50]
    rfl
  | m + 1, j, v, hj, h, h7 => by
    have hc := cN_in j
    obtain ⟨v1, e1, e2, e5⟩ := m_freezes (L := L) (xs := xs) (d := d) hc.1 hc.2 h h7
    obtain ⟨v', e3⟩ := lp_mfrost n y hy hy2 hn m (j + 1) v1 (by omega) e2 (by unfold cN; exact e5)
    refine ⟨v', ?_⟩
    rw [show ((j + 1 : Nat) : Int) = (j : Int) + 1 by omega, show j + 1 + m = j + (m + 1) by omega] at e3
    rw [b_X12_frost_29, if_pos (by omega), b_X12_frost_34, e1, qB_some, psh_none, b_X12_frost_38, w32_id (by omega) (by omega)]
    exact e3
theorem op_18 (h : Fresh v) (n y : Int) : pOK 6 xs v nX11_frost nX12_frost 0 [(0, n), (0, y)] := by
  refine pok (r := if (0 ≤ n ∧ n ≤ 60) ∧ (0 ≤ y ∧ y < 12) then cN n.toNat else -1) ?_ (fun v h => ?_)
  · have e := f_11_0 h
    by_cases h1 : 0 ≤ n ∧ n ≤ 60
    · by_cases h2 : 0 ≤ y ∧ y < 12
      · rw [if_pos ⟨h1, h2⟩]
        obtain ⟨v1, e1, e2⟩ := c_begin (L := 6) (xs := xs) (d := 995) h
        obtain ⟨v', e3, e4⟩ := lp_frost (L := 6) (xs := xs) (d := 995) n y h2.1 h2.2 h1.2 n.toNat 0 v1 39 40 (by omega) e2
        refine ⟨v', e4, ?_⟩
        rw [show 0 + n.toNat = n.toNat by omega] at e3
        simp (disch := omega) only [e_X11_frost, b_X11_frost_0, b_X11_frost_4, b_X11_frost_10, b_X11_frost_18, b_X11_frost_23, b_X11_frost_34, c_hasYard, e, zb_0, if_pos h2, if_neg, e1, show qG 6 xs 999 CX11_frost 36 [(2, 0), (0, n), (0, y), (0, 0)] [] (qS v1) = _ from e3, qB_some, psh_some, psh_none, and_true, true_and, and_false, false_and, and_self, or_true, true_or, or_false, false_or, not_true_eq_false, not_false_eq_true, ↓reduceIte, Int.reduceEq, Int.reduceLT, Int.reduceLE, Int.reduceToNat, Nat.reduceEqDiff, Nat.reduceAdd]
      · rw [if_neg (fun q => h2 q.2)]
        exact ⟨v, M0_of h, by simp (disch := omega) only [e_X11_frost, b_X11_frost_0, b_X11_frost_4, b_X11_frost_10, b_X11_frost_18, b_X11_frost_21, c_hasYard, e, zb_0, if_neg h2, if_neg, qB_some, psh_some, psh_none, and_true, true_and, and_false, false_and, and_self, or_true, true_or, or_false, false_or, not_true_eq_false, not_false_eq_true, ↓reduceIte, Int.reduceEq, Int.reduceLT, Int.reduceLE, Int.reduceToNat, Nat.reduceEqDiff, Nat.reduceAdd]⟩
    · rw [if_neg (fun q => h1 q.1)]
      by_cases h3 : n < 0
      · exact ⟨v, M0_of h, by simp (disch := omega) only [e_X11_frost, b_X11_frost_0, b_X11_frost_21, if_pos, qB_some, psh_some, psh_none, and_true, true_and, and_false, false_and, and_self, or_true, true_or, or_false, false_or, not_true_eq_false, not_false_eq_true, ↓reduceIte, Int.reduceEq, Int.reduceLT, Int.reduceLE, Int.reduceToNat, Nat.reduceEqDiff, Nat.reduceAdd]⟩
      · exact ⟨v, M0_of h, by simp (disch := omega) only [e_X11_frost, b_X11_frost_0, b_X11_frost_4, b_X11_frost_21, if_pos, if_neg, qB_some, psh_some, psh_none, and_true, true_and, and_false, false_and, and_self, or_true, true_or, or_false, false_or, not_true_eq_false, not_false_eq_true, ↓reduceIte, Int.reduceEq, Int.reduceLT, Int.reduceLE, Int.reduceToNat, Nat.reduceEqDiff, Nat.reduceAdd]⟩
  · have e := g_64_140 h
    by_cases h1 : 0 ≤ n ∧ n ≤ 60
    · by_cases h2 : 0 ≤ y ∧ y < 12
      · rw [if_pos ⟨h1, h2⟩]
        obtain ⟨v1, e1, e2, e5⟩ := m_begin (L := 6) (xs := xs) (d := 995) h
        obtain ⟨v', e3⟩ := lp_mfrost (L := 6) (xs := xs) (d := 995) n y h2.1 h2.2 h1.2 n.toNat 0 v1 (by omega) e2 e5
        refine ⟨v', ?_⟩
        rw [show 0 + n.toNat = n.toNat by omega] at e3
        simp (disch := omega) only [e_X12_frost, b_X12_frost_0, b_X12_frost_9, b_X12_frost_12, b_X12_frost_18, b_X12_frost_23, b_X12_frost_27, c_within, c_isYard, e, zb_0, if_pos h1, if_pos h2, e1, show qG 6 xs 999 CX12_frost 29 [(2, 63), (0, n), (0, y), (0, 0)] [] (qS v1) = _ from e3, qB_some, psh_some, psh_none, and_true, true_and, and_false, false_and, and_self, or_true, true_or, or_false, false_or, not_true_eq_false, not_false_eq_true, ↓reduceIte, Int.reduceEq, Int.reduceLT, Int.reduceLE, Int.reduceToNat, Nat.reduceEqDiff, Nat.reduceAdd]
      · rw [if_neg (fun q => h2 q.2)]
        exact ⟨v, by simp (disch := omega) only [e_X12_frost, b_X12_frost_0, b_X12_frost_9, b_X12_frost_12, b_X12_frost_18, b_X12_frost_21, c_within, c_isYard, e, zb_0, if_pos h1, if_neg h2, qB_some, psh_some, psh_none, and_true, true_and, and_false, false_and, and_self, or_true, true_or, or_false, false_or, not_true_eq_false, not_false_eq_true, ↓reduceIte, Int.reduceEq, Int.reduceLT, Int.reduceLE, Int.reduceToNat, Nat.reduceEqDiff, Nat.reduceAdd]⟩
    · rw [if_neg (fun q => h1 q.1)]
      exact ⟨v, by simp (disch := omega) only [e_X12_frost, b_X12_frost_0, b_X12_frost_9, b_X12_frost_21, c_within, zb_0, if_neg h1, qB_some, psh_some, psh_none, and_true, true_and, and_false, false_and, and_self, or_true, true_or, or_false, false_or, not_true_eq_false, not_false_eq_true, ↓reduceIte, Int.reduceEq, Int.reduceLT, Int.reduceLE, Int.reduceToNat, Nat.reduceEqDiff, Nat.reduceAdd]⟩
end FP
