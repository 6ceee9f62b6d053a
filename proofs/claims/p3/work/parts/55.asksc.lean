/-! THE REFERENCE's matrix of steps: the lanes; all of it -/
section AM
variable {L : Nat} {xs : Nat → Int} {d : Nat} {v : Nat → Nat → Int}
theorem lp_alane {R : Nat → Nat → Nat → Int → Prop} {T0 : Nat → Nat → Int → Prop} {H : Nat} {sl : Int} (x1 : Int) : ∀ (n h : Nat) (v : Nat → Nat → Int) (u3 : pm_V), h + n = H → v 1 2 = (H : Int) → WW v → CW v → v 63 24 = sl → sLa v = R → MH v (fun a b k => T0 a b k ∨ ∃ j : Nat, j < h ∧ (j : Int) ≠ sl ∧ R j a b k) → ∃ v', qG L xs (d + 4) CX12_asksSteps 199 [(2, 63), (0, x1), (0, (h : Int)), u3] [] (qS v) = qG L xs (d + 4) CX12_asksSteps 312 [(2, 63), (0, x1), (0, (H : Int)), u3] [] (qS v') ∧ (∀ c, c ≠ 74 → v' c = v c) ∧ MH v' (fun a b k => T0 a b k ∨ ∃ j : Nat, j < H ∧ (j : Int) ≠ sl ∧ R j a b k)
  | 0, h, v, u3, hh, hH, hW, hC, hsl, hR, hM => by
    have hhH : h = H := by omega
    subst hhH
    refine ⟨v, ?_, fun _ _ => rfl, hM⟩
    rw [b_X12_asksSteps_199, if_neg (by rw [hC.1.2.2.1]; omega)]
  | n + 1, h, v, u3, hh, hH, hW, hC, hsl, hR, hM => by
    have hW0 := hW
    have hC0 := hC
    obtain ⟨q1, q2, q3, q4, q5, q6⟩ := hW
    obtain ⟨⟨k1, k2, k3, k4, k5⟩, k6, k7⟩ := hC
    obtain ⟨j1, j2, j3, j4⟩ := k7 h (by omega)
    have r4 := (q4 h (by omega)).2
    have a0 : qG L xs (d + 4) CX12_asksSteps 199 [(2, 63), (0, x1), (0, (h : Int)), u3] [] (qS v) = (if ((0 ≤ v 16 h ∧ v 16 h < 2 * v 11 0) ∧ 0 ≤ v 17 h ∧ v 17 h < 2 * v 11 0) ∧ v 8 h = 1 ∧ (h : Int) ≠ sl then qG L xs (d + 4) CX12_asksSteps 256 [(2, 63), (0, x1), (0, (h : Int)), u3] [] (qS v) else qG L xs (d + 4) CX12_asksSteps 306 [(2, 63), (0, x1), (0, (h : Int)), u3] [] (qS v)) := by
      rw [b_X12_asksSteps_199, if_pos (by omega), b_X12_asksSteps_207, if_pos (by omega), Int.toNat_natCast, j1, b_X12_asksSteps_214, c_isPlace (by omega) (by omega), qB_some, psh_some, b_X12_asksSteps_218, zb_0, k1]
      by_cases g1 : 0 ≤ v 16 h ∧ v 16 h < 2 * v 11 0
      · rw [if_pos g1, b_X12_asksSteps_221, if_pos (by omega), Int.toNat_natCast, j2, b_X12_asksSteps_228, c_isPlace (by omega) (by omega), qB_some, psh_some, b_X12_asksSteps_232, zb_0, k1]
        by_cases g0 : 0 ≤ v 17 h ∧ v 17 h < 2 * v 11 0
        · rw [if_pos g0, b_X12_asksSteps_235, w32_id (by omega) (by omega), if_pos (by omega), show (114 + (h : Int)).toNat = 114 + h by omega, j3, b_X12_asksSteps_244]
          by_cases g2 : v 8 h = 1
          · rw [if_pos g2, b_X12_asksSteps_248, hsl]
            by_cases g3 : (h : Int) = sl
            · rw [if_pos g3, if_neg (fun q => q.2.2 g3)]
            · rw [if_neg g3, if_pos ⟨⟨g1, g0⟩, g2, g3⟩]
          · rw [if_neg g2, if_neg (fun q => g2 q.2.1)]
        · rw [if_neg g0, if_neg (fun q => g0 q.1.2)]
      · rw [if_neg g1, if_neg (fun q => g1 q.1.1)]
    by_cases g : ((0 ≤ v 16 h ∧ v 16 h < 2 * v 11 0) ∧ 0 ≤ v 17 h ∧ v 17 h < 2 * v 11 0) ∧ v 8 h = 1 ∧ (h : Int) ≠ sl
    · obtain ⟨v0, e1, e2, e3⟩ := m_leads (L := L) (xs := xs) (d := d + 3) hM (a := (v 16 h).toNat) (b := (v 17 h).toNat) (by omega) (by omega) (k := v 9 h) (by omega)
      obtain ⟨v1, e7, e8, e9⟩ := m_leads (L := L) (xs := xs) (d := d + 3) e3 (a := (v 17 h).toNat) (b := (v 16 h).toNat) (by omega) (by omega) (k := v 9 h) (by omega)
      have e28 : ∀ c, c ≠ 74 → v1 c = v c := fun c hc => (e8 c hc).trans (e2 c hc)
      have f1 := fA_N (fA_74 e28)
      obtain ⟨v2, e4, e5, e6⟩ := lp_alane (H := H) (R := R) (sl := sl) x1 n (h + 1) v1 u3 (by omega) (by rw [e28 1 (by decide)]; exact hH) (by rw [WW_N f1]; exact hW0) (by rw [CW_N f1]; exact hC0) (by rw [e28 63 (by decide)]; exact hsl) (by rw [sLa_N f1]; exact hR) (MH_if (fun a b k => by
        have hRh : ∀ a b k, R h a b k ↔ (((a = (v 16 h).toNat ∧ b = (v 17 h).toNat) ∨ (a = (v 17 h).toNat ∧ b = (v 16 h).toNat)) ∧ k = v 9 h) := fun a b k => by
          rw [← hR]
          exact ⟨fun w => w.2, fun w => ⟨⟨g.2.1, g.1⟩, w⟩⟩
        constructor
        · rintro (((g1 | ⟨j, g1, g2, g3⟩) | ⟨g1, g2, g3⟩) | ⟨g1, g2, g3⟩)
          · exact Or.inl g1
          · exact Or.inr ⟨j, by omega, g2, g3⟩
          · exact Or.inr ⟨h, by omega, g.2.2, (hRh a b k).mpr ⟨Or.inl ⟨g1, g2⟩, g3⟩⟩
          · exact Or.inr ⟨h, by omega, g.2.2, (hRh a b k).mpr ⟨Or.inr ⟨g1, g2⟩, g3⟩⟩
        · rintro (g1 | ⟨j, g1, g2, g3⟩)
          · exact Or.inl (Or.inl (Or.inl g1))
          · by_cases hj : j = h
            · subst hj
              rcases (hRh a b k).mp g3 with ⟨⟨w1, w2⟩ | ⟨w1, w2⟩, w3⟩
              · exact Or.inl (Or.inr ⟨w1, w2, w3⟩)
              · exact Or.inr ⟨w1, w2, w3⟩
            · exact Or.inl (Or.inl (Or.inr ⟨j, by omega, g2, g3⟩))) e9)
      refine ⟨v2, ?_, fun c hc => (e5 c hc).trans (e28 c hc), e6⟩
      refine Eq.trans ?_ e4
      have t1 : ((v 16 h).toNat : Int) = v 16 h := by omega
      have t2 : ((v 17 h).toNat : Int) = v 17 h := by omega
      rw [t1, t2] at e1 e7
      have u1 := e2 69 (by decide)
      have u2 := e2 70 (by decide)
      have u3 := e2 64 (by decide)
      rw [a0, if_pos g, b_X12_asksSteps_256, if_pos (by omega), Int.toNat_natCast, j1, b_X12_asksSteps_263, if_pos (by omega), Int.toNat_natCast, j2, b_X12_asksSteps_269, w32_id (by omega) (by omega), if_pos (by omega), show (126 + (h : Int)).toNat = 126 + h by omega, j4, b_X12_asksSteps_278, e1, qB_some, psh_none, b_X12_asksSteps_281, if_pos (by omega), Int.toNat_natCast, u2, j2, b_X12_asksSteps_288, if_pos (by omega), Int.toNat_natCast, u1, j1, b_X12_asksSteps_294, w32_id (by omega) (by omega), if_pos (by omega), show (126 + (h : Int)).toNat = 126 + h by omega, u3, j4, b_X12_asksSteps_303, e7, qB_some, psh_none, b_X12_asksSteps_306, w32_id (by omega) (by omega)]
      rfl
    · obtain ⟨v2, e4, e5, e6⟩ := lp_alane (H := H) (R := R) (sl := sl) x1 n (h + 1) v u3 (by omega) hH hW0 hC0 hsl hR (MH_if (fun a b k => by
        constructor
        · rintro (g1 | ⟨j, g1, g2, g3⟩)
          · exact Or.inl g1
          · exact Or.inr ⟨j, by omega, g2, g3⟩
        · rintro (g1 | ⟨j, g1, g2, g3⟩)
          · exact Or.inl g1
          · by_cases hj : j = h
            · subst hj
              rw [← hR] at g3
              exact absurd ⟨g3.1.2, g3.1.1, g2⟩ g
            · exact Or.inr ⟨j, by omega, g2, g3⟩) hM)
      refine ⟨v2, ?_, e5, e6⟩
      refine Eq.trans ?_ e4
      rw [a0, if_neg g, b_X12_asksSteps_306, w32_id (by omega) (by omega)]
      rfl
/-- all steps that are there; a hole more, a hole shut, a lane shut as told -/
theorem m_asks {c : Nat → Nat → Nat → Int} {al sh sl : Int} (hW : WW v) (hC : CW v) (hN : LN L xs v c) (hal : v 63 22 = al) (hsh : v 63 23 = sh) (hsl : v 63 24 = sl) (ha2 : al < v 11 0) : ∃ v', qE L xs (d + 92) nX12_asksSteps [(2, 63)] (qS v) = some (none, qS v') ∧ fA v v' ∧ MH v' (SG v c al sh sl) := by
  obtain ⟨q1, q2, q3, q4, q5, q6⟩ := hW
  have hW0 : WW v := ⟨q1, q2, q3, q4, q5, q6⟩
  obtain ⟨Y, hY⟩ : ∃ Y : Nat, v 11 0 = (Y : Int) := ⟨(v 11 0).toNat, by omega⟩
  obtain ⟨H, hH⟩ : ∃ H : Nat, v 1 1 = (H : Int) := ⟨(v 1 1).toNat, by omega⟩
  obtain ⟨N, hNN⟩ : ∃ N : Nat, v 1 2 = (N : Int) := ⟨(v 1 2).toNat, by omega⟩
  obtain ⟨v1, e1, e2, e3⟩ := lp_afill (L := L) (xs := xs) (d := d + 91) 3600 0 v (by omega) (fun i hi => absurd hi (by omega))
  have f1 : fA v v1 := fA_74 e2
  obtain ⟨v2, w3, e4, e5, e6⟩ := lp_along (L := L) (xs := xs) (d := d) (c := c) (Y := Y) (by omega) Y 0 v1 (9, 0) (by omega) (LN_N hN (fA_N f1)) ⟨fun a b ha hb => Or.inl (e3 (60 * a + b) (by omega)), fun a b k hk => absurd hk.1 (by omega), fun a b k hk => absurd hk.1 (by omega)⟩
  have f2 : fA v v2 := fA_t f1 e5
  have n2 := fA_N f2
  obtain ⟨v3, e7, e8, e9⟩ := lp_ahole (L := L) (xs := xs) (d := d + 87) (R := sHo v) (H := H) (sh := sh) (Y : Int) H 0 v2 w3 (by omega) (by rw [fN_c n2 (c := 1) (by omega)]; exact hH) (by rw [WW_N n2]; exact hW0) (by rw [CW_N n2]; exact hC) (by rw [f2.2 23 (by omega)]; exact hsh) (sHo_N n2) (MH_if (fun a b k => ⟨Or.inl, fun w => by
    rcases w with w | ⟨j, hj, -⟩
    · exact w
    · exact absurd hj (by omega)⟩) e6)
  have f3 : fA v v3 := fA_t f2 (fA_74 e8)
  have n3 := fA_N f3
  have A : ∃ v4, qG L xs (d + 91) CX12_asksSteps 181 [(2, 63), (0, (Y : Int)), (0, (H : Int)), w3] [] (qS v3) = qG L xs (d + 91) CX12_asksSteps 197 [(2, 63), (0, (Y : Int)), (0, (H : Int)), w3] [] (qS v4) ∧ fA v v4 ∧ MH v4 (fun a b k => (aT (Y : Int) c (2 * Y) a b k ∨ ∃ j : Nat, j < H ∧ (j : Int) ≠ sh ∧ sHo v j a b k) ∨ (0 ≤ al ∧ thr al.toNat a b ∧ k = 1)) := by
    have hal3 : v3 63 22 = al := by rw [f3.2 22 (by omega)]; exact hal
    by_cases g : al < 0
    · refine ⟨v3, ?_, f3, MH_if (fun a b k => ⟨Or.inl, fun w => ?_⟩) e9⟩
      · rw [b_X12_asksSteps_181, hal3, if_pos g]
      · rcases w with w | ⟨w, -⟩
        · exact w
        · omega
    · obtain ⟨v4, e10, e11, e12⟩ := m_through (L := L) (xs := xs) (d := d + 89) e9 (y := al.toNat) (by omega) (k := 1) (by omega)
      refine ⟨v4, ?_, fA_t f3 (fA_74 e11), MH_if (fun a b k => ?_) e12⟩
      · have t : (al.toNat : Int) = al := by omega
        rw [t] at e10
        rw [b_X12_asksSteps_181, hal3, if_neg g, b_X12_asksSteps_188, hal3, e10, qB_some, psh_none]
      · constructor
        · rintro (w | w)
          · exact Or.inl w
          · exact Or.inr ⟨by omega, w⟩
        · rintro (w | ⟨-, w⟩)
          · exact Or.inl w
          · exact Or.inr w
  obtain ⟨v4, e10, f4, e12⟩ := A
  have n4 := fA_N f4
  obtain ⟨v5, e13, e14, e15⟩ := lp_alane (L := L) (xs := xs) (d := d + 87) (R := sLa v) (H := N) (sl := sl) (Y : Int) N 0 v4 w3 (by omega) (by rw [fN_c n4 (c := 1) (by omega)]; exact hNN) (by rw [WW_N n4]; exact hW0) (by rw [CW_N n4]; exact hC) (by rw [f4.2 24 (by omega)]; exact hsl) (sLa_N n4) (MH_if (fun a b k => ⟨Or.inl, fun w => by
    rcases w with w | ⟨j, hj, -⟩
    · exact w
    · exact absurd hj (by omega)⟩) e12)
  have f5 : fA v v5 := fA_t f4 (fA_74 e14)
  have n5 := fA_N f5
  obtain ⟨⟨k1, k2, k3, k4, k5⟩, -, -⟩ := hC
  have B : ∃ v6, qG L xs (d + 91) CX12_asksSteps 312 [(2, 63), (0, (Y : Int)), (0, (N : Int)), w3] [] (qS v5) = qG L xs (d + 91) CX12_asksSteps 336 [(2, 63), (0, (Y : Int)), (0, (N : Int)), w3] [] (qS v6) ∧ fA v v6 ∧ MH v6 (fun a b k => (((aT (Y : Int) c (2 * Y) a b k ∨ ∃ j : Nat, j < H ∧ (j : Int) ≠ sh ∧ sHo v j a b k) ∨ (0 ≤ al ∧ thr al.toNat a b ∧ k = 1)) ∨ ∃ j : Nat, j < N ∧ (j : Int) ≠ sl ∧ sLa v j a b k) ∨ (0 < v 10 0 ∧ thr 0 a b ∧ k = v 10 0)) := by
    have h1 : v5 64 138 = v 10 0 := by rw [fN_c n5 (c := 64) (by omega)]; exact k4
    by_cases g : 0 < v 10 0
    · obtain ⟨v6, e16, e17, e18⟩ := m_through (L := L) (xs := xs) (d := d + 89) e15 (y := 0) (by omega) (k := v 10 0) (by omega)
      refine ⟨v6, ?_, fA_t f5 (fA_74 e17), MH_if (fun a b k => ?_) e18⟩
      · have e16' : qE L xs (d + 91) nX12_through [(2, 63), (0, 0), (0, v 10 0)] (qS v5) = _ := e16
        rw [b_X12_asksSteps_312, h1, if_pos g, b_X12_asksSteps_323, h1, e16', qB_some, psh_none]
      · constructor
        · rintro (w | w)
          · exact Or.inl w
          · exact Or.inr ⟨g, w⟩
        · rintro (w | ⟨-, w⟩)
          · exact Or.inl w
          · exact Or.inr w
    · refine ⟨v5, ?_, f5, MH_if (fun a b k => ⟨Or.inl, fun w => ?_⟩) e15⟩
      · rw [b_X12_asksSteps_312, h1, if_neg g]
      · rcases w with w | ⟨w, -⟩
        · exact w
        · exact absurd w g
  obtain ⟨v6, e16, f6, e18⟩ := B
  have n6 := fA_N f6
  have D : ∃ v7, qG L xs (d + 91) CX12_asksSteps 336 [(2, 63), (0, (Y : Int)), (0, (N : Int)), w3] [] (qS v6) = qG L xs (d + 91) CX12_asksSteps 362 [(2, 63), (0, (Y : Int)), (0, (N : Int)), w3] [] (qS v7) ∧ fA v v7 ∧ MH v7 (fun a b k => ((((aT (Y : Int) c (2 * Y) a b k ∨ ∃ j : Nat, j < H ∧ (j : Int) ≠ sh ∧ sHo v j a b k) ∨ (0 ≤ al ∧ thr al.toNat a b ∧ k = 1)) ∨ ∃ j : Nat, j < N ∧ (j : Int) ≠ sl ∧ sLa v j a b k) ∨ (0 < v 10 0 ∧ thr 0 a b ∧ k = v 10 0)) ∨ (0 < v 10 1 ∧ thr (v 11 0 - 1).toNat a b ∧ k = v 10 1)) := by
    have h1 : v6 64 139 = v 10 1 := by rw [fN_c n6 (c := 64) (by omega)]; exact k5
    by_cases g : 0 < v 10 1
    · obtain ⟨v7, e19, e20, e21⟩ := m_through (L := L) (xs := xs) (d := d + 89) e18 (y := (v 11 0 - 1).toNat) (by omega) (k := v 10 1) (by omega)
      refine ⟨v7, ?_, fA_t f6 (fA_74 e20), MH_if (fun a b k => ?_) e21⟩
      · have t : ((v 11 0 - 1).toNat : Int) = (Y : Int) - 1 := by omega
        rw [t] at e19
        rw [b_X12_asksSteps_336, h1, if_pos g, b_X12_asksSteps_347, h1, w32_id (by omega) (by omega), e19, qB_some, psh_none]
      · constructor
        · rintro (w | w)
          · exact Or.inl w
          · exact Or.inr ⟨g, w⟩
        · rintro (w | ⟨-, w⟩)
          · exact Or.inl w
          · exact Or.inr w
    · refine ⟨v6, ?_, f6, MH_if (fun a b k => ⟨Or.inl, fun w => ?_⟩) e18⟩
      · rw [b_X12_asksSteps_336, h1, if_neg g]
      · rcases w with w | ⟨w, -⟩
        · exact w
        · exact absurd w g
  obtain ⟨v7, e19, f7, e21⟩ := D
  refine ⟨v7, ?_, f7, MH_if (fun a b k => ?_) e21⟩
  · rw [e_X12_asksSteps, b_X12_asksSteps_0]
    refine Eq.trans e1 ?_
    rw [b_X12_asksSteps_23, c_yardMany, qB_some, psh_some, b_X12_asksSteps_27, fN_c (fA_N f1) (c := 64) (by omega), k1, hY]
    refine Eq.trans e4 ?_
    rw [b_X12_asksSteps_111]
    refine Eq.trans e7 ?_
    refine Eq.trans e10 ?_
    rw [b_X12_asksSteps_197]
    refine Eq.trans e13 ?_
    refine Eq.trans e16 ?_
    refine Eq.trans e19 ?_
    rw [b_X12_asksSteps_362]
  · unfold SG sRo
    rw [hH, hNN, hY]
    constructor
    · rintro (((((⟨-, w⟩ | ⟨j, w1, w2, w3⟩) | w) | ⟨j, w1, w2, w3⟩) | w) | w)
      · exact Or.inl w
      · exact Or.inr (Or.inl ⟨j, by omega, w2, w3⟩)
      · exact Or.inr (Or.inr (Or.inl w))
      · exact Or.inr (Or.inr (Or.inr (Or.inl ⟨j, by omega, w2, w3⟩)))
      · exact Or.inr (Or.inr (Or.inr (Or.inr (Or.inl w))))
      · exact Or.inr (Or.inr (Or.inr (Or.inr (Or.inr w))))
    · rintro (w | ⟨j, w1, w2, w3⟩ | w | ⟨j, w1, w2, w3⟩ | w | w)
      · refine Or.inl (Or.inl (Or.inl (Or.inl (Or.inl ⟨?_, w⟩))))
        rcases w with w | w
        · have := w.1; omega
        · have := w.1; omega
      · exact Or.inl (Or.inl (Or.inl (Or.inl (Or.inr ⟨j, by omega, w2, w3⟩))))
      · exact Or.inl (Or.inl (Or.inl (Or.inr w)))
      · exact Or.inl (Or.inl (Or.inr ⟨j, by omega, w2, w3⟩))
      · exact Or.inl (Or.inr w)
      · exact Or.inr w
end AM
