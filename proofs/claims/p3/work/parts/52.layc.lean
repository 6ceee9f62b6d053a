/-! WAYS: lay(), its holes, lanes and ends -/
section LC
variable {L : Nat} {xs : Nat → Int} {d : Nat} {v : Nat → Nat → Int}
theorem ly_c {v w : Nat → Nat → Int} (h : ∀ c, c < 29 ∨ 33 < c → w c = v c) : WW w = WW v ∧ sHo w = sHo v ∧ sLa w = sLa v := ⟨WW_W (fW_ly h), sHo_W (fW_ly h), sLa_W (fW_ly h)⟩
theorem lp_holes {R : Nat → Nat → Nat → Int → Prop} {T0 : Nat → Nat → Int → Int → Prop} {P H S0 : Nat} (hS0 : S0 + 2 * H ≤ 172) : ∀ (n h S : Nat) (v : Nat → Nat → Int) (u4 : pm_V), h + n = H → v 1 1 = (H : Int) → WW v → 2 * v 11 0 = (P : Int) → sHo v = R → S ≤ S0 + 2 * h → LyI v S P (fun a b k x => T0 a b k x ∨ ∃ j, j < h ∧ R j a b k ∧ x = (j : Int)) → ∃ v' S' w4, qG L xs (d + 9) CX10_lay 26 [(2, 29), (2, 1), (2, 23), (0, (h : Int)), u4] [] (qS v) = qG L xs (d + 9) CX10_lay 76 [(2, 29), (2, 1), (2, 23), (0, (H : Int)), w4] [] (qS v') ∧ (∀ c, c < 29 ∨ 33 < c → v' c = v c) ∧ S' ≤ S0 + 2 * H ∧ LyI v' S' P (fun a b k x => T0 a b k x ∨ ∃ j, j < H ∧ R j a b k ∧ x = (j : Int))
  | 0, h, S, v, u4, hh, hH, hW, hP, hR, hS, hL => by
    have hhH : h = H := by omega
    subst hhH
    refine ⟨v, S, u4, ?_, fun _ _ => rfl, hS, hL⟩
    rw [b_X10_lay_26, if_neg (by omega)]
  | n + 1, h, S, v, u4, hh, hH, hW, hP, hR, hS, hL => by
    obtain ⟨q1, q2, q3, q4, q5, q6⟩ := hW
    have r4 := (q4 h (by omega)).1
    have a4 : hm v 4 = v 1 1 := rfl
    have a12 : hm v 12 = v 1 1 := rfl
    by_cases g : v 6 h = 1 ∧ 0 ≤ v 15 h ∧ v 15 h < v 11 0
    · obtain ⟨v1, e1, e2, e3⟩ := c_addBoth (L := L) (xs := xs) (d := d + 6) hL (by omega) (a := 2 * (v 15 h).toNat) (b := 2 * (v 15 h).toNat + 1) (by omega) (by omega) (x := (h : Int)) (k := v 7 h) (by omega)
      obtain ⟨c1, c2, -⟩ := ly_c e2
      obtain ⟨v2, S2, w4, e4, e5, e6, e7⟩ := lp_holes (R := R) hS0 n (h + 1) (S + 2) v1 (0, 2 * v 15 h) (by omega) (by rw [e2 1 (by omega)]; exact hH) (by rw [c1]; exact ⟨q1, q2, q3, q4, q5, q6⟩) (by rw [e2 11 (by omega)]; exact hP) (by rw [c2]; exact hR) (by omega) (LyI_if (fun a b k x => by
        have hRh : ∀ a b k, R h a b k ↔ (((a = 2 * (v 15 h).toNat ∧ b = 2 * (v 15 h).toNat + 1) ∨ (a = 2 * (v 15 h).toNat + 1 ∧ b = 2 * (v 15 h).toNat)) ∧ k = v 7 h) := fun a b k => by
          rw [← hR]
          exact ⟨fun w => w.2, fun w => ⟨g, w⟩⟩
        constructor
        · rintro ((g1 | ⟨j, g1, g2, g3⟩) | ⟨g1, g2, g3⟩)
          · exact Or.inl g1
          · exact Or.inr ⟨j, by omega, g2, g3⟩
          · exact Or.inr ⟨h, by omega, (hRh a b k).mpr ⟨g1, g2⟩, g3⟩
        · rintro (g1 | ⟨j, g1, g2, g3⟩)
          · exact Or.inl (Or.inl g1)
          · by_cases hj : j = h
            · subst hj
              have g4 := (hRh a b k).mp g2
              exact Or.inr ⟨g4.1, g4.2, g3⟩
            · exact Or.inl (Or.inr ⟨j, by omega, g2, g3⟩)) e3)
      refine ⟨v2, S2, w4, ?_, fun c hc => (e5 c hc).trans (e2 c hc), e6, e7⟩
      refine Eq.trans ?_ e4
      rw [b_X10_lay_26, if_pos (by omega), b_X10_lay_34, c_isHoleOpen ⟨q1, q2, q3, q4, q5, q6⟩ h (by omega), qB_some, psh_some, b_X10_lay_39, zb_0, if_pos g, b_X10_lay_42, c_value_in 12 h (by omega) (by omega) (by omega) (by omega) (by omega), qB_some, psh_some, show v (3 + (12 : Int).toNat) (h : Int).toNat = v 15 h from rfl, b_X10_lay_50, c_value_in 4 h (by omega) (by omega) (by omega) (by omega) (by omega), qB_some, psh_some, show v (3 + (4 : Int).toNat) (h : Int).toNat = v 7 h from rfl, w32_id (z := 2 * v 15 h) (by omega) (by omega), w32_id (by omega) (by omega), b_X10_lay_66]
      rw [show 2 * v 15 h + 1 = ((2 * (v 15 h).toNat + 1 : Nat) : Int) by omega, show 2 * v 15 h = ((2 * (v 15 h).toNat : Nat) : Int) by omega, e1, qB_some, psh_none, b_X10_lay_70, w32_id (by omega) (by omega)]
      rfl
    · obtain ⟨v2, S2, w4, e4, e5, e6, e7⟩ := lp_holes (R := R) hS0 n (h + 1) S v u4 (by omega) hH ⟨q1, q2, q3, q4, q5, q6⟩ hP hR (by omega) (LyI_if (fun a b k x => by
        have hRh : ∀ a b k, ¬ R h a b k := fun a b k w => by
          rw [← hR] at w
          exact g w.1
        constructor
        · rintro (g1 | ⟨j, g1, g2, g3⟩)
          · exact Or.inl g1
          · exact Or.inr ⟨j, by omega, g2, g3⟩
        · rintro (g1 | ⟨j, g1, g2, g3⟩)
          · exact Or.inl g1
          · by_cases hj : j = h
            · subst hj
              exact absurd g2 (hRh a b k)
            · exact Or.inr ⟨j, by omega, g2, g3⟩) hL)
      refine ⟨v2, S2, w4, ?_, e5, e6, e7⟩
      refine Eq.trans ?_ e4
      rw [b_X10_lay_26, if_pos (by omega), b_X10_lay_34, c_isHoleOpen ⟨q1, q2, q3, q4, q5, q6⟩ h (by omega), qB_some, psh_some, b_X10_lay_39, zb_0, if_neg g, b_X10_lay_70, w32_id (by omega) (by omega)]
      rfl
theorem lp_lanes {R : Nat → Nat → Nat → Int → Prop} {T0 : Nat → Nat → Int → Int → Prop} {P H S0 : Nat} (hS0 : S0 + 2 * H ≤ 172) : ∀ (n h S : Nat) (v : Nat → Nat → Int) (u4 : pm_V), h + n = H → v 1 2 = (H : Int) → WW v → 2 * v 11 0 = (P : Int) → sLa v = R → S ≤ S0 + 2 * h → LyI v S P (fun a b k x => T0 a b k x ∨ ∃ j, j < h ∧ R j a b k ∧ x = 12 + (j : Int)) → ∃ v' S' w4, qG L xs (d + 9) CX10_lay 78 [(2, 29), (2, 1), (2, 23), (0, (h : Int)), u4] [] (qS v) = qG L xs (d + 9) CX10_lay 129 [(2, 29), (2, 1), (2, 23), (0, (H : Int)), w4] [] (qS v') ∧ (∀ c, c < 29 ∨ 33 < c → v' c = v c) ∧ S' ≤ S0 + 2 * H ∧ LyI v' S' P (fun a b k x => T0 a b k x ∨ ∃ j, j < H ∧ R j a b k ∧ x = 12 + (j : Int))
  | 0, h, S, v, u4, hh, hH, hW, hP, hR, hS, hL => by
    have hhH : h = H := by omega
    subst hhH
    refine ⟨v, S, u4, ?_, fun _ _ => rfl, hS, hL⟩
    rw [b_X10_lay_78, if_neg (by omega)]
  | n + 1, h, S, v, u4, hh, hH, hW, hP, hR, hS, hL => by
    obtain ⟨q1, q2, q3, q4, q5, q6⟩ := hW
    have r4 := (q4 h (by omega)).2
    have a6 : hm v 6 = v 1 2 := rfl
    have a13 : hm v 13 = v 1 2 := rfl
    have a14 : hm v 14 = v 1 2 := rfl
    by_cases g : v 8 h = 1 ∧ (0 ≤ v 16 h ∧ v 16 h < 2 * v 11 0) ∧ 0 ≤ v 17 h ∧ v 17 h < 2 * v 11 0
    · obtain ⟨v1, e1, e2, e3⟩ := c_addBoth (L := L) (xs := xs) (d := d + 6) hL (by omega) (a := (v 16 h).toNat) (b := (v 17 h).toNat) (by omega) (by omega) (x := 12 + (h : Int)) (k := v 9 h) (by omega)
      obtain ⟨c1, -, c2⟩ := ly_c e2
      obtain ⟨v2, S2, w4, e4, e5, e6, e7⟩ := lp_lanes (R := R) hS0 n (h + 1) (S + 2) v1 u4 (by omega) (by rw [e2 1 (by omega)]; exact hH) (by rw [c1]; exact ⟨q1, q2, q3, q4, q5, q6⟩) (by rw [e2 11 (by omega)]; exact hP) (by rw [c2]; exact hR) (by omega) (LyI_if (fun a b k x => by
        have hRh : ∀ a b k, R h a b k ↔ (((a = (v 16 h).toNat ∧ b = (v 17 h).toNat) ∨ (a = (v 17 h).toNat ∧ b = (v 16 h).toNat)) ∧ k = v 9 h) := fun a b k => by
          rw [← hR]
          exact ⟨fun w => w.2, fun w => ⟨g, w⟩⟩
        constructor
        · rintro ((g1 | ⟨j, g1, g2, g3⟩) | ⟨g1, g2, g3⟩)
          · exact Or.inl g1
          · exact Or.inr ⟨j, by omega, g2, g3⟩
          · exact Or.inr ⟨h, by omega, (hRh a b k).mpr ⟨g1, g2⟩, g3⟩
        · rintro (g1 | ⟨j, g1, g2, g3⟩)
          · exact Or.inl (Or.inl g1)
          · by_cases hj : j = h
            · subst hj
              have g4 := (hRh a b k).mp g2
              exact Or.inr ⟨g4.1, g4.2, g3⟩
            · exact Or.inl (Or.inr ⟨j, by omega, g2, g3⟩)) e3)
      refine ⟨v2, S2, w4, ?_, fun c hc => (e5 c hc).trans (e2 c hc), e6, e7⟩
      refine Eq.trans ?_ e4
      rw [b_X10_lay_78, if_pos (by omega), b_X10_lay_86, c_isLaneOpen ⟨q1, q2, q3, q4, q5, q6⟩ h (by omega), qB_some, psh_some, b_X10_lay_91, zb_0, if_pos g, b_X10_lay_94, c_value_in 13 h (by omega) (by omega) (by omega) (by omega) (by omega), qB_some, psh_some, show v (3 + (13 : Int).toNat) (h : Int).toNat = v 16 h from rfl, b_X10_lay_102, c_value_in 14 h (by omega) (by omega) (by omega) (by omega) (by omega), qB_some, psh_some, show v (3 + (14 : Int).toNat) (h : Int).toNat = v 17 h from rfl, b_X10_lay_109, c_value_in 6 h (by omega) (by omega) (by omega) (by omega) (by omega), qB_some, psh_some, show v (3 + (6 : Int).toNat) (h : Int).toNat = v 9 h from rfl, b_X10_lay_116, w32_id (z := 12 + (h : Int)) (by omega) (by omega)]
      have e1' : qE L xs (d + 9) nX10_addBothWays [(2, 29), (0, v 16 h), (0, v 17 h), (0, v 9 h), (0, 12 + (h : Int))] (qS v) = some (none, qS v1) := by
        rw [show ((v 16 h).toNat : Int) = v 16 h by omega, show ((v 17 h).toNat : Int) = v 17 h by omega] at e1
        exact e1
      rw [e1', qB_some, psh_none, b_X10_lay_123, w32_id (by omega) (by omega)]
      rfl
    · obtain ⟨v2, S2, w4, e4, e5, e6, e7⟩ := lp_lanes (R := R) hS0 n (h + 1) S v u4 (by omega) hH ⟨q1, q2, q3, q4, q5, q6⟩ hP hR (by omega) (LyI_if (fun a b k x => by
        have hRh : ∀ a b k, ¬ R h a b k := fun a b k w => by
          rw [← hR] at w
          exact g w.1
        constructor
        · rintro (g1 | ⟨j, g1, g2, g3⟩)
          · exact Or.inl g1
          · exact Or.inr ⟨j, by omega, g2, g3⟩
        · rintro (g1 | ⟨j, g1, g2, g3⟩)
          · exact Or.inl g1
          · by_cases hj : j = h
            · subst hj
              exact absurd g2 (hRh a b k)
            · exact Or.inr ⟨j, by omega, g2, g3⟩) hL)
      refine ⟨v2, S2, w4, ?_, e5, e6, e7⟩
      refine Eq.trans ?_ e4
      rw [b_X10_lay_78, if_pos (by omega), b_X10_lay_86, c_isLaneOpen ⟨q1, q2, q3, q4, q5, q6⟩ h (by omega), qB_some, psh_some, b_X10_lay_91, zb_0, if_neg g, b_X10_lay_123, w32_id (by omega) (by omega)]
      rfl
/-- lay() lays all steps that are there -/
theorem c_lay {c : Nat → Nat → Nat → Int} {P : Nat} (hW : WW v) (hP : 2 * v 11 0 = (P : Int)) (hM : LM L xs v c) : ∃ v' S, qE L xs (d + 10) nX10_lay [(2, 29), (2, 1), (2, 23)] (qS v) = some (none, qS v') ∧ fW v v' ∧ LyI v' S P (TT v c) := by
  have hW0 := hW
  obtain ⟨q1, q2, q3, q4, q5, q6⟩ := hW
  obtain ⟨H, hH⟩ : ∃ H : Nat, v 1 1 = (H : Int) := ⟨(v 1 1).toNat, by omega⟩
  obtain ⟨N, hN⟩ : ∃ N : Nat, v 1 2 = (N : Int) := ⟨(v 1 2).toNat, by omega⟩
  have f1 : ∀ c, c < 29 ∨ 33 < c → pm_up (pm_up v 29 8 0) 29 9 P c = v c := fun c hc => by rw [up_cell (by omega), up_cell (by omega)]
  obtain ⟨v1, e1, e2, e3⟩ := c_layAlong (L := L) (xs := xs) (d := d) (v := pm_up (pm_up v 29 8 0) 29 9 P) (c := c) (P := P) (by omega) (by omega) (LM_W hM (fW_ly f1)) ⟨⟨by rw [up_ne (by omega), up_eq]; rfl, by omega, by rw [up_eq], by omega, fun i hi => absurd hi (by omega)⟩, fun a b k x => ⟨fun ⟨i, hi, _⟩ => absurd hi (by omega), False.elim⟩⟩
  have g1 : fW v v1 := fW_t (fW_ly f1) e2
  obtain ⟨v2, S2, w4, e4, e5, e6, e7⟩ := lp_holes (L := L) (xs := xs) (d := d) (R := sHo v) (H := H) (S0 := P - 2 + (P - 2)) (by omega) H 0 (P - 2 + (P - 2)) v1 (9, 0) (by omega) (by rw [fW_c g1 (c := 1) (by omega)]; exact hH) (by rw [WW_W g1]; exact hW0) (by rw [fW_c g1 (c := 11) (by omega)]; exact hP) (sHo_W g1) (by omega) (LyI_if (fun a b k x => ⟨Or.inl, fun w => by
    rcases w with w | ⟨j, hj, -⟩
    · exact w
    · exact absurd hj (by omega)⟩) e3)
  have g2 : fW v v2 := fW_t g1 (fW_ly e5)
  obtain ⟨v3, S3, w5, e8, e9, e10, e11⟩ := lp_lanes (L := L) (xs := xs) (d := d) (R := sLa v) (H := N) (S0 := S2) (by omega) N 0 S2 v2 w4 (by omega) (by rw [fW_c g2 (c := 1) (by omega)]; exact hN) (by rw [WW_W g2]; exact hW0) (by rw [fW_c g2 (c := 11) (by omega)]; exact hP) (sLa_W g2) (by omega) (LyI_if (fun a b k x => ⟨Or.inl, fun w => by
    rcases w with w | ⟨j, hj, -⟩
    · exact w
    · exact absurd hj (by omega)⟩) e7)
  have g3 : fW v v3 := fW_t g2 (fW_ly e9)
  have k10 := fW_c g3 (c := 10) (by omega)
  have a7 : hm v3 7 = 2 := rfl
  obtain ⟨v4, S4, e12, e13, e14, e15⟩ := c_round (L := L) (xs := xs) (d := d + 5) e11 (by omega) (a := 0) (by omega) (k := v 10 0) (by omega)
  have g4 : fW v v4 := fW_t g3 (fW_ly e13)
  have k10b := fW_c g4 (c := 10) (by omega)
  have a7b : hm v4 7 = 2 := rfl
  obtain ⟨v5, S5, e16, e17, e18, e19⟩ := c_round (L := L) (xs := xs) (d := d + 5) e15 (by omega) (a := P - 2) (by omega) (k := v 10 1) (by omega)
  have g5 : fW v v5 := fW_t g4 (fW_ly e17)
  refine ⟨v5, S5, ?_, g5, LyI_if (fun a b k x => ?_) e19⟩
  · have h94 := e15.1.2.2.1
    rw [e_X10_lay, b_X10_lay_0, b_X10_lay_5, c_placesNow (by rw [up_cell (by omega)]; omega) (by rw [up_cell (by omega)]; omega), qB_some, psh_some, b_X10_lay_10, up_cell (a := 11) (by omega), hP, show pm_min (P : Int) 60 = (P : Int) from if_neg (by omega), b_X10_lay_18, e1, qB_some, psh_none, b_X10_lay_24]
    refine Eq.trans e4 ?_
    rw [b_X10_lay_76]
    refine Eq.trans e8 ?_
    rw [b_X10_lay_129, c_value_in 7 0 (by omega) (by omega) (by omega) (by omega) (by omega), qB_some, psh_some, show v3 (3 + (7 : Int).toNat) (0 : Int).toNat = v3 10 0 from rfl, k10, b_X10_lay_138]
    have e12' : qE L xs (d + 9) nX10_layRound [(2, 29), (0, 0), (0, v 10 0)] (qS v3) = some (none, qS v4) := e12
    rw [e12', qB_some, psh_none, b_X10_lay_141, c_value_in 7 1 (by omega) (by omega) (by omega) (by omega) (by omega), qB_some, psh_some, show v4 (3 + (7 : Int).toNat) (1 : Int).toNat = v4 10 1 from rfl, k10b, h94, w32_id (by omega) (by omega), b_X10_lay_155, show (P : Int) - 2 = ((P - 2 : Nat) : Int) by omega, e16, qB_some, psh_none, b_X10_lay_158]
  · have hY : (v 11 0 - 1).toNat = P / 2 - 1 := by omega
    unfold TT sRo uT dT sUp sDn thr
    rw [hY]
    constructor
    · rintro ((((((⟨w1, w2, w3, w4⟩ | ⟨w1, w2, w3, w4, w5⟩)) | ⟨j, w1, w2, w3⟩) | ⟨j, w1, w2, w3⟩) | ⟨w1, w2, w3, w4⟩) | ⟨w1, w2, w3, w4⟩)
      · exact Or.inl ⟨Or.inl ⟨by omega, w2, w3⟩, w4⟩
      · exact Or.inl ⟨Or.inr ⟨by omega, w3, w4⟩, w5⟩
      · exact Or.inr (Or.inl ⟨j, by omega, w2, w3⟩)
      · exact Or.inr (Or.inr (Or.inl ⟨j, by omega, w2, w3⟩))
      · exact Or.inr (Or.inr (Or.inr ⟨Or.inl ⟨w1, by omega, w3⟩, w4⟩))
      · exact Or.inr (Or.inr (Or.inr ⟨Or.inr ⟨w1, by omega, w3⟩, w4⟩))
    · rintro (⟨⟨w1, w2, w3⟩ | ⟨w1, w2, w3⟩, w4⟩ | ⟨j, w1, w2, w3⟩ | ⟨j, w1, w2, w3⟩ | ⟨⟨w1, w2, w3⟩ | ⟨w1, w2, w3⟩, w4⟩)
      · exact Or.inl (Or.inl (Or.inl (Or.inl (Or.inl ⟨by omega, w2, w3, w4⟩))))
      · exact Or.inl (Or.inl (Or.inl (Or.inl (Or.inr ⟨by omega, by omega, w2, w3, w4⟩))))
      · exact Or.inl (Or.inl (Or.inl (Or.inr ⟨j, by omega, w2, w3⟩)))
      · exact Or.inl (Or.inl (Or.inr ⟨j, by omega, w2, w3⟩))
      · exact Or.inl (Or.inr ⟨w1, by omega, w3, w4⟩)
      · exact Or.inr ⟨w1, by omega, w3, w4⟩
end LC
