/-! frost and frozen keep the relation -/
section OP3
variable {L : Nat} {xs : Nat → Int} {d : Nat} {v u : Nat → Nat → Int} {w x Y : Nat} {W : Nat → Int}
/-- after the class's nights -/
theorem rR_frG (h : rlR v) {u' : Nat → Nat → Int} (hI : FrG v u' Y W w x) : rlR u' := by
  obtain ⟨h2, h3, h4, h5, h6, h7⟩ := hI
  refine rlR_or h (Or.inr (fun c j q => h2 c j (by unfold dsW at q; omega))) (Or.inr (fun c j q => h2 c j (by unfold dsC at q; omega))) (Or.inr (fun c j q => h2 c j (by unfold dsT at q; omega))) (Or.inr (fun c j q => h2 c j (by unfold dsL at q; omega))) (Or.inr (fun c j q => h2 c j (by unfold dsD at q; omega))) (Or.inr (fun c j q => h2 c j (by unfold dsG at q; omega))) (Or.inr (fun c j q => h2 c j (by unfold dsB at q; omega))) (Or.inr (fun c j q => h2 c j (by unfold dsS at q; omega))) (Or.inl ⟨?_, ?_⟩)
  · rw [h2 63 22 (by omega), h2 63 23 (by omega), h2 63 24 (by omega)]
    exact h.2.2.2.2.2.2.2.2.1
  · rcases h3 with ⟨rfl, rfl⟩ | ⟨rfl, rfl⟩
    · exact Or.inl ⟨h4, h5⟩
    · exact Or.inr ⟨h4, h5⟩
theorem rR_mrG (h : rlR v) {u' : Nat → Nat → Int} (hI : MrG v u' Y W) : rlR u' := by
  refine rlR_cg (fun c j q => hI.1 c j ?_) h
  unfold dsR dsW dsC dsT dsL dsD dsG dsB dsS dsN at q
  omega
theorem rW_MW (h : rlW v) (h11 : v 11 0 = (Y : Int)) : MW v Y (v 13 0) (v 3) := by
  have hL := rW_L h
  exact ⟨(rM_L h).trans h11, rM_C h, fun i hi => rM_t h i hi, by omega, rW_C h, fun i hi => rW_t h i hi⟩
theorem ntW_cg {C : Int} {T W' : Nat → Int} (h : ∀ i, i < Y → W i = W' i) : ∀ m i, i < Y → ntW C T Y W m i = ntW C T Y W' m i
  | 0, i, hi => h i hi
  | m + 1, i, hi => by
    have ih := ntW_cg (C := C) (T := T) h m
    show nxW _ _ _ _ i = nxW _ _ _ _ i
    have a : bwW (ntW C T Y W m) i = bwW (ntW C T Y W' m) i := by
      unfold bwW
      rw [ih (i - 1) (by omega), ih i hi]
    have b : abW Y (ntW C T Y W m) i = abW Y (ntW C T Y W' m) i := by
      unfold abW
      by_cases g : i + 1 < Y
      · rw [if_pos g, if_pos g, ih (i + 1) g]
      · rw [if_neg g, if_neg g, ih i hi]
    unfold nxW
    rw [a, b, ih i hi]
theorem opr_frost (h : rlR v) (n y : Int) : opR L xs v nX11_frost nX12_frost 0 [(0, n), (0, y)] := by
  have hL := rW_L h.1
  have hM := rM_L h.1
  obtain ⟨Y, hY⟩ : ∃ Y : Nat, v 11 0 = (Y : Int) := ⟨(v 11 0).toNat, by omega⟩
  by_cases h1 : 0 ≤ n ∧ n ≤ 60
  · by_cases h2 : 0 ≤ y ∧ y < v 11 0
    · obtain ⟨q, rfl⟩ : ∃ q : Nat, y = (q : Int) := ⟨y.toNat, by omega⟩
      have hW : ∀ i, i < Y → 0 ≤ v 4 i ∧ v 4 i ≤ 99 := fun i hi => rW_w h.1 i (by omega)
      obtain ⟨v1, w, x, e1, e2⟩ := cr_begin (L := L) (xs := xs) (d := 995) (Y := Y) (v := v) (by omega) hY h.2.2.2.2.2.2.2.2.2
      obtain ⟨v', w', x', e3, e4⟩ := lpr_frost (L := L) (xs := xs) (d := 995) (u := v) (Y := Y) (W := v 4) h.1 (by omega) hW n q (by omega) h1.2 n.toNat 0 v1 w x (by omega) e2
      rw [show 0 + n.toNat = n.toNat by omega] at e3 e4
      have hR := rR_frG h e4
      have k := fun t i => e4.1 t i
      have hW2 : ∀ i, i < Y → 0 ≤ v' 64 (30 + i) ∧ v' 64 (30 + i) ≤ 99 := fun i hi => by
        rw [rM_w hR.1 i (by omega)]
        exact rW_w hR.1 i (by omega)
      have h11 : v' 11 0 = (Y : Int) := by rw [k 11 0 (by omega)]; exact hY
      have hMW := rW_MW hR.1 h11
      obtain ⟨v2, e5, e6⟩ := mr_begin (L := L) (xs := xs) (d := 995) (v := v') (Y := Y) (by omega) hMW.1
      obtain ⟨v3, e7, e8⟩ := lpr_mfrost (L := L) (xs := xs) (d := 995) (u := v') (Y := Y) hMW hW2 n q (by omega) h1.2 n.toNat 0 v2 (by omega) e6
      rw [show 0 + n.toNat = n.toNat by omega] at e7 e8
      have hM1 := hMW.1
      have eq : ∀ m i, i < Y → ntW (v' 13 0) (v' 3) Y (fun i => v' 64 (30 + i)) m i = ntW (v 13 0) (v 3) Y (v 4) m i := by
        rw [k 13 0 (by omega), show v' 3 = v 3 from funext fun t => k 3 t (by omega)]
        exact ntW_cg (fun i hi => (rM_w hR.1 i (by omega)).trans (k 4 i (by omega)))
      refine ⟨ntW (v 13 0) (v 3) Y (v 4) n.toNat q, v', v3, ?_, ?_, rR_mrG hR e8⟩
      · rw [e_X11_frost, b_X11_frost_0, if_neg (by omega), b_X11_frost_4, if_neg (by omega), b_X11_frost_10, c_hasYard, qB_some, psh_some, b_X11_frost_18, zb_0, if_pos h2, b_X11_frost_23, e1, qB_some, psh_none, b_X11_frost_34]
        exact e3
      · rw [e_X12_frost, b_X12_frost_0, c_within, qB_some, psh_some, b_X12_frost_9, zb_0, if_pos h1, b_X12_frost_12, c_isYard (by omega) (by omega), qB_some, psh_some, b_X12_frost_18, zb_0, if_pos (by omega), b_X12_frost_23, e5, qB_some, psh_none, b_X12_frost_27]
        rw [← eq n.toNat q (by omega)]
        exact e7
    · refine opR_no (r := -1) h ?_ ?_
      · rw [e_X11_frost, b_X11_frost_0, if_neg (by omega), b_X11_frost_4, if_neg (by omega), b_X11_frost_10, c_hasYard, qB_some, psh_some, b_X11_frost_18, zb_0, if_neg h2, b_X11_frost_21]
      · rw [e_X12_frost, b_X12_frost_0, c_within, qB_some, psh_some, b_X12_frost_9, zb_0, if_pos h1, b_X12_frost_12, c_isYard (by omega) (by omega), qB_some, psh_some, b_X12_frost_18, zb_0, if_neg (by omega), b_X12_frost_21]
  · refine opR_no (r := -1) h ?_ ?_
    · rw [e_X11_frost, b_X11_frost_0]
      by_cases h3 : n < 0
      · rw [if_pos h3, b_X11_frost_21]
      · rw [if_neg h3, b_X11_frost_4, if_pos (by omega), b_X11_frost_21]
    · rw [e_X12_frost, b_X12_frost_0, c_within, qB_some, psh_some, b_X12_frost_9, zb_0, if_neg h1, b_X12_frost_21]
/-- the first cold yard from j on, of n more; -1 without one -/
def fzW (W : Nat → Int) : Nat → Nat → Int
  | 0, _ => -1
  | n + 1, j => if W j = 0 then (j : Int) else fzW W n (j + 1)
theorem lpr_zero (hI : FrG u v Y W w x) (hY : Y ≤ 30) : ∀ (n j : Nat), j + n = Y → qG L xs d CX4_firstAtZero 2 [(2, 38), (0, (j : Int))] [] (qS v) = some (some (0, fzW W n j), qS v)
  | 0, j, hj => by
    rw [b_X4_firstAtZero_2, hI.2.2.2.2.1, if_neg (by omega), b_X4_firstAtZero_27]
    rfl
  | n + 1, j, hj => by
    have h3 := lpr_zero hI hY n (j + 1) (by omega)
    rw [show ((j + 1 : Nat) : Int) = (j : Int) + 1 by omega] at h3
    rw [b_X4_firstAtZero_2, hI.2.2.2.2.1, if_pos (by omega), b_X4_firstAtZero_10, frg_ld (pc2 := 16) rfl rfl hI hY (by omega) (by omega), Int.toNat_natCast, b_X4_firstAtZero_16]
    unfold fzW
    by_cases g : W j = 0
    · rw [if_pos g, if_pos g, b_X4_firstAtZero_19]
    · rw [if_neg g, if_neg g, b_X4_firstAtZero_21, w32_id (by omega) (by omega)]
      exact h3
/-- what frozen() answers, from the night j on -/
def frW (N : Nat → Nat → Int) (Y : Nat) (a : Int) : Nat → Nat → Int
  | 0, _ => -2
  | n + 1, j => if fzW (N j) Y 0 < 0 then frW N Y a n (j + 1) else if a = 0 then fzW (N j) Y 0 else (j : Int)
theorem lpr_frozen (hu : rlW u) (hY : Y ≤ 30) (hW : ∀ i, i < Y → 0 ≤ W i ∧ W i ≤ 99) (a : Int) : ∀ (m j : Nat) (v : Nat → Nat → Int) (w x : Nat) (u3 : pm_V), j + m = 61 → FrG u v Y (ntW (u 13 0) (u 3) Y W j) w x → ∃ v' W' w' x', qG L xs (d + 4) CX11_frozen 24 [(2, 0), (0, a), (0, (j : Int)), u3] [] (qS v) = some (some (0, frW (ntW (u 13 0) (u 3) Y W) Y a m j), qS v') ∧ FrG u v' Y W' w' x'
  | 0, j, v, w, x, u3, hj, hI => by
    refine ⟨v, _, w, x, ?_, hI⟩
    rw [b_X11_frozen_24, if_pos (by omega), b_X11_frozen_69]
    rfl
  | m + 1, j, v, w, x, u3, hj, hI => by
    have hc := ntW_in (rW_C hu) (fun i hi => rW_t hu i hi) hY hW j
    have lz := lpr_zero (L := L) (xs := xs) (d := d + 3) hI hY Y 0 (by omega)
    rw [show ((0 : Nat) : Int) = 0 from rfl] at lz
    rw [b_X11_frozen_24, if_neg (by omega), b_X11_frozen_30, e_X4_firstAtZero, b_X4_firstAtZero_0, lz, qB_some, psh_some, b_X11_frozen_37]
    unfold frW
    by_cases h0 : fzW (ntW (u 13 0) (u 3) Y W j) Y 0 < 0
    · obtain ⟨v1, e1, e2⟩ := cr_pass (L := L) (xs := xs) (d := d) hu hY hc hI
      obtain ⟨v', W', w', x', e3, e4⟩ := lpr_frozen hu hY hW a m (j + 1) v1 x w (0, fzW (ntW (u 13 0) (u 3) Y W j) Y 0) (by omega) e2
      refine ⟨v', W', w', x', ?_, e4⟩
      rw [show ((j + 1 : Nat) : Int) = (j : Int) + 1 by omega] at e3
      rw [if_pos h0, if_pos h0, b_X11_frozen_52, e1, qB_some, psh_none, b_X11_frozen_63, w32_id (by omega) (by omega)]
      exact e3
    · refine ⟨v, _, w, x, ?_, hI⟩
      rw [if_neg h0, if_neg h0, b_X11_frozen_42]
      by_cases ha : a = 0
      · rw [if_pos ha, if_pos ha, b_X11_frozen_46, b_X11_frozen_51]
      · rw [if_neg ha, if_neg ha, b_X11_frozen_50, b_X11_frozen_51]
theorem lpr_mzero {T : Nat → Int} {C : Int} (a k : Int) (hM : MW u Y C T) (h : MrG u v Y W) : ∀ (n j : Nat), j + n = Y → (fzW W n j < 0 → qG L xs (d + 1) CX12_frozen 26 [(2, 63), (0, a), (0, k), (0, (j : Int))] [] (qS v) = qG L xs (d + 1) CX12_frozen 59 [(2, 63), (0, a), (0, k), (0, (Y : Int))] [] (qS v)) ∧ (¬ fzW W n j < 0 → qG L xs (d + 1) CX12_frozen 26 [(2, 63), (0, a), (0, k), (0, (j : Int))] [] (qS v) = some (some (0, if a = 0 then fzW W n j else k), qS v))
  | 0, j, hj => by
    refine ⟨fun _ => ?_, fun q => absurd (show fzW W 0 j < 0 by show (-1 : Int) < 0; omega) q⟩
    rw [b_X12_frozen_26, c_yardMany, qB_some, psh_some, b_X12_frozen_31, h.1 64 140 (by omega), hM.1, if_neg (by omega), show (j : Int) = Y by omega]
  | n + 1, j, hj => by
    have hY := hM.2.2.2.1
    have ih := lpr_mzero a k hM h n (j + 1) (by omega)
    rw [show ((j + 1 : Nat) : Int) = (j : Int) + 1 by omega] at ih
    rw [b_X12_frozen_26, c_yardMany, qB_some, psh_some, b_X12_frozen_31, h.1 64 140 (by omega), hM.1, if_pos (by omega), b_X12_frozen_34, if_pos (by omega), Int.toNat_natCast, h.2 _ (by omega), b_X12_frozen_40]
    unfold fzW
    by_cases g : W j = 0
    · rw [if_pos g, if_pos g, b_X12_frozen_43]
      refine ⟨fun q => by omega, fun _ => ?_⟩
      by_cases ha : a = 0
      · rw [if_pos ha, if_pos ha, b_X12_frozen_47, b_X12_frozen_52]
      · rw [if_neg ha, if_neg ha, b_X12_frozen_51, b_X12_frozen_52]
    · rw [if_neg g, if_neg g, b_X12_frozen_53, w32_id (by omega) (by omega)]
      exact ih
theorem lpr_mfrozen {C : Int} {T : Nat → Int} (hM : MW u Y C T) (hW : ∀ i, i < Y → 0 ≤ W i ∧ W i ≤ 99) (a : Int) : ∀ (m j : Nat) (v : Nat → Nat → Int) (u3 : pm_V), j + m = 61 → MrG u v Y (ntW C T Y W j) → ∃ v' W', qG L xs (d + 4) CX12_frozen 18 [(2, 63), (0, a), (0, (j : Int)), u3] [] (qS v) = some (some (0, frW (ntW C T Y W) Y a m j), qS v') ∧ MrG u v' Y W'
  | 0, j, v, u3, hj, h => by
    refine ⟨v, _, ?_, h⟩
    rw [b_X12_frozen_18, if_pos (by omega), b_X12_frozen_69]
    rfl
  | m + 1, j, v, u3, hj, h => by
    have hc := ntW_in hM.2.2.2.2.1 hM.2.2.2.2.2 hM.2.2.2.1 hW j
    have lz := lpr_mzero (L := L) (xs := xs) (d := d + 3) a (j : Int) hM h Y 0 (by omega)
    rw [show ((0 : Nat) : Int) = 0 from rfl] at lz
    rw [b_X12_frozen_18, if_neg (by omega), b_X12_frozen_24]
    unfold frW
    by_cases h0 : fzW (ntW C T Y W j) Y 0 < 0
    · obtain ⟨v1, e1, e2⟩ := mr_freezes (L := L) (xs := xs) (d := d) hM hc h
      obtain ⟨v', W', e3, e4⟩ := lpr_mfrozen hM hW a m (j + 1) v1 (0, (Y : Int)) (by omega) e2
      refine ⟨v', W', ?_, e4⟩
      rw [show ((j + 1 : Nat) : Int) = (j : Int) + 1 by omega] at e3
      rw [if_pos h0]
      refine Eq.trans (lz.1 h0) ?_
      rw [b_X12_frozen_59, e1, qB_some, psh_none, b_X12_frozen_63, w32_id (by omega) (by omega)]
      exact e3
    · refine ⟨v, _, ?_, h⟩
      rw [if_neg h0]
      exact lz.2 h0
theorem fzW_cg {W' : Nat → Int} (h : ∀ i, i < Y → W i = W' i) : ∀ n j, j + n = Y → fzW W n j = fzW W' n j
  | 0, _, _ => rfl
  | n + 1, j, hj => by
    unfold fzW
    rw [h j (by omega), fzW_cg h n (j + 1) (by omega)]
theorem frW_cg {N N' : Nat → Nat → Int} {a : Int} (h : ∀ m i, i < Y → N m i = N' m i) : ∀ n j, frW N Y a n j = frW N' Y a n j
  | 0, _ => rfl
  | n + 1, j => by
    unfold frW
    rw [fzW_cg (h j) Y 0 (by omega), frW_cg h n (j + 1)]
theorem opr_frozen (h : rlR v) (a : Int) : opR L xs v nX11_frozen nX12_frozen 0 [(0, a)] := by
  have hL := rW_L h.1
  obtain ⟨Y, hY⟩ : ∃ Y : Nat, v 11 0 = (Y : Int) := ⟨(v 11 0).toNat, by omega⟩
  by_cases h1 : 0 ≤ a ∧ a ≤ 1
  · have hW : ∀ i, i < Y → 0 ≤ v 4 i ∧ v 4 i ≤ 99 := fun i hi => rW_w h.1 i (by omega)
    obtain ⟨v1, w, x, e1, e2⟩ := cr_begin (L := L) (xs := xs) (d := 995) (Y := Y) (v := v) (by omega) hY h.2.2.2.2.2.2.2.2.2
    obtain ⟨v', W', w', x', e3, e4⟩ := lpr_frozen (L := L) (xs := xs) (d := 995) (u := v) (Y := Y) (W := v 4) h.1 (by omega) hW a 61 0 v1 w x (9, 0) (by omega) e2
    have hR := rR_frG h e4
    have k := fun t i => e4.1 t i
    have hW2 : ∀ i, i < Y → 0 ≤ v' 64 (30 + i) ∧ v' 64 (30 + i) ≤ 99 := fun i hi => by
      rw [rM_w hR.1 i (by omega)]
      exact rW_w hR.1 i (by omega)
    have h11 : v' 11 0 = (Y : Int) := by rw [k 11 0 (by omega)]; exact hY
    have hMW := rW_MW hR.1 h11
    obtain ⟨v2, e5, e6⟩ := mr_begin (L := L) (xs := xs) (d := 995) (v := v') (Y := Y) (by omega) hMW.1
    obtain ⟨v3, W3, e7, e8⟩ := lpr_mfrozen (L := L) (xs := xs) (d := 995) (u := v') (Y := Y) hMW hW2 a 61 0 v2 (9, 0) (by omega) e6
    have eq : ∀ m i, i < Y → ntW (v' 13 0) (v' 3) Y (fun i => v' 64 (30 + i)) m i = ntW (v 13 0) (v 3) Y (v 4) m i := by
      rw [k 13 0 (by omega), show v' 3 = v 3 from funext fun t => k 3 t (by omega)]
      exact ntW_cg (fun i hi => (rM_w hR.1 i (by omega)).trans (k 4 i (by omega)))
    refine ⟨frW (ntW (v 13 0) (v 3) Y (v 4)) Y a 61 0, v', v3, ?_, ?_, rR_mrG hR e8⟩
    · rw [e_X11_frozen, b_X11_frozen_0, if_neg (by omega), b_X11_frozen_4, if_neg (by omega), b_X11_frozen_11, e1, qB_some, psh_none, b_X11_frozen_22]
      exact e3
    · rw [e_X12_frozen, b_X12_frozen_0, c_within, qB_some, psh_some, b_X12_frozen_7, zb_0, if_pos h1, b_X12_frozen_12, e5, qB_some, psh_none, b_X12_frozen_16]
      rw [← frW_cg eq 61 0]
      exact e7
  · refine opR_no (r := -1) h ?_ ?_
    · rw [e_X11_frozen, b_X11_frozen_0]
      by_cases h2 : a < 0
      · rw [if_pos h2, b_X11_frozen_9]
      · rw [if_neg h2, b_X11_frozen_4, if_pos (by omega), b_X11_frozen_9]
    · rw [e_X12_frozen, b_X12_frozen_0, c_within, qB_some, psh_some, b_X12_frozen_7, zb_0, if_neg h1, b_X12_frozen_10]
end OP3
