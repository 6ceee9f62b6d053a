/-! THE REFERENCE's matrix of steps: asksSteps() -/
section AL
variable {L : Nat} {xs : Nat → Int} {d : Nat} {v : Nat → Nat → Int}
/-- what the reference's reckoning of a law may change -/
def fK (v w : Nat → Nat → Int) : Prop := (∀ c, c ≠ 63 → c ≠ 73 → w c = v c) ∧ ∀ k, k < 15 ∨ 19 < k → w 63 k = v 63 k
/-- .. its asking of the steps, too -/
def fA (v w : Nat → Nat → Int) : Prop := (∀ c, c ≠ 63 → c ≠ 73 → c ≠ 74 → w c = v c) ∧ ∀ k, k < 15 ∨ 19 < k → w 63 k = v 63 k
/-- .. and its ways -/
def fN (v w : Nat → Nat → Int) : Prop := (∀ c, c < 63 ∨ (63 < c ∧ c < 73) ∨ (76 < c ∧ c ≠ 81) → w c = v c) ∧ ∀ k, k < 15 ∨ 24 < k → w 63 k = v 63 k
theorem fA_r (v : Nat → Nat → Int) : fA v v := ⟨fun _ _ _ _ => rfl, fun _ _ => rfl⟩
theorem fN_r (v : Nat → Nat → Int) : fN v v := ⟨fun _ _ => rfl, fun _ _ => rfl⟩
theorem fA_t {v w u : Nat → Nat → Int} (h1 : fA v w) (h2 : fA w u) : fA v u := ⟨fun c a b e => (h2.1 c a b e).trans (h1.1 c a b e), fun k hk => (h2.2 k hk).trans (h1.2 k hk)⟩
theorem fN_t {v w u : Nat → Nat → Int} (h1 : fN v w) (h2 : fN w u) : fN v u := ⟨fun c a => (h2.1 c a).trans (h1.1 c a), fun k hk => (h2.2 k hk).trans (h1.2 k hk)⟩
theorem fK_A {v w : Nat → Nat → Int} (h : fK v w) : fA v w := ⟨fun c a b _ => h.1 c a b, h.2⟩
theorem fA_N {v w : Nat → Nat → Int} (h : fA v w) : fN v w := ⟨fun c a => h.1 c (by omega) (by omega) (by omega), fun k hk => h.2 k (by omega)⟩
theorem fA_74 {v w : Nat → Nat → Int} (h : ∀ c, c ≠ 74 → w c = v c) : fA v w := ⟨fun c _ _ g => h c g, fun k _ => by rw [h 63 (by decide)]⟩
theorem fN_own {v w : Nat → Nat → Int} (h : ∀ c, c < 74 ∨ 76 < c → w c = v c) : fN v w := ⟨fun c a => h c (by omega), fun k _ => by rw [h 63 (by omega)]⟩
/-- the reference's wall and law are the same -/
def gN (v w : Nat → Nat → Int) : Prop := (∀ c, (63 < c ∧ c < 73) ∨ (76 < c ∧ c ≠ 81) → w c = v c) ∧ ∀ k, k < 15 ∨ 24 < k → w 63 k = v 63 k
theorem gN_r (v : Nat → Nat → Int) : gN v v := ⟨fun _ _ => rfl, fun _ _ => rfl⟩
theorem gN_t {v w u : Nat → Nat → Int} (h1 : gN v w) (h2 : gN w u) : gN v u := ⟨fun c a => (h2.1 c a).trans (h1.1 c a), fun k hk => (h2.2 k hk).trans (h1.2 k hk)⟩
theorem fN_g {v w : Nat → Nat → Int} (h : fN v w) : gN v w := ⟨fun c a => h.1 c (by omega), h.2⟩
theorem fW_gN {v w : Nat → Nat → Int} (h : fW v w) : gN v w := ⟨fun c a => h.1 c (by omega) (by omega) (by omega) (by omega), fun k _ => by rw [h.1 63 (by omega) (by omega) (by omega) (by omega)]⟩
/-- the reference's law tells c y s u minutes -/
def LN (L : Nat) (xs : Nat → Int) (v : Nat → Nat → Int) (c : Nat → Nat → Nat → Int) : Prop := (∀ y s u, 1 ≤ c y s u ∧ c y s u ≤ 99) ∧ ∀ w, gN v w → ∀ (d y s u : Nat), y < 30 → s < 2 → u < 2 → ∃ w', qE L xs (d + 90) nX12_walksFor [(2, 63), (0, (y : Int)), (0, (s : Int)), (0, (u : Int))] (qS w) = some (some (0, c y s u), qS w') ∧ fK w w'
theorem LN_g {v w : Nat → Nat → Int} {c : Nat → Nat → Nat → Int} (h : LN L xs v c) (hw : gN v w) : LN L xs w c := ⟨h.1, fun u hu => h.2 u (gN_t hw hu)⟩
theorem LN_N {v w : Nat → Nat → Int} {c : Nat → Nat → Nat → Int} (h : LN L xs v c) (hw : fN v w) : LN L xs w c := LN_g h (fN_g hw)
/-- the reference's wall is the class's -/
def CW (v : Nat → Nat → Int) : Prop := (v 64 140 = v 11 0 ∧ v 63 6 = v 1 1 ∧ v 63 8 = v 1 2 ∧ v 64 138 = v 10 0 ∧ v 64 139 = v 10 1) ∧ (∀ i : Nat, (i : Int) < v 1 1 → v 68 i = v 15 i ∧ v 64 (90 + i) = v 6 i ∧ v 64 (102 + i) = v 7 i) ∧ ∀ i : Nat, (i : Int) < v 1 2 → v 69 i = v 16 i ∧ v 70 i = v 17 i ∧ v 64 (114 + i) = v 8 i ∧ v 64 (126 + i) = v 9 i
theorem fN_c {v w : Nat → Nat → Int} (h : fN v w) {c : Nat} (hc : c < 63 ∨ (63 < c ∧ c < 73) ∨ (76 < c ∧ c ≠ 81)) : w c = v c := h.1 c hc
theorem CW_N {v w : Nat → Nat → Int} (h : fN v w) : CW w = CW v := by
  unfold CW
  rw [fN_c h (c := 64) (by omega), fN_c h (c := 68) (by omega), fN_c h (c := 69) (by omega), fN_c h (c := 70) (by omega), fN_c h (c := 1) (by omega), fN_c h (c := 6) (by omega), fN_c h (c := 7) (by omega), fN_c h (c := 8) (by omega), fN_c h (c := 9) (by omega), fN_c h (c := 10) (by omega), fN_c h (c := 11) (by omega), fN_c h (c := 15) (by omega), fN_c h (c := 16) (by omega), fN_c h (c := 17) (by omega), h.2 6 (by omega), h.2 8 (by omega)]
theorem WW_N {v w : Nat → Nat → Int} (h : fN v w) : WW w = WW v := by
  unfold WW
  rw [fN_c h (c := 11) (by omega), fN_c h (c := 1) (by omega), fN_c h (c := 7) (by omega), fN_c h (c := 9) (by omega), fN_c h (c := 10) (by omega)]
theorem sHo_N {v w : Nat → Nat → Int} (h : fN v w) : sHo w = sHo v := by
  funext i a b k
  unfold sHo
  rw [fN_c h (c := 6) (by omega), fN_c h (c := 15) (by omega), fN_c h (c := 11) (by omega), fN_c h (c := 7) (by omega)]
theorem sLa_N {v w : Nat → Nat → Int} (h : fN v w) : sLa w = sLa v := by
  funext i a b k
  unfold sLa
  rw [fN_c h (c := 8) (by omega), fN_c h (c := 16) (by omega), fN_c h (c := 17) (by omega), fN_c h (c := 11) (by omega), fN_c h (c := 9) (by omega)]
theorem SG_N {v w : Nat → Nat → Int} (h : fN v w) : SG w = SG v := by
  funext c al sh sl a b k
  unfold SG sRo
  rw [sHo_N h, sLa_N h, fN_c h (c := 11) (by omega), fN_c h (c := 10) (by omega), fN_c h (c := 1) (by omega)]
/-- the steps along, from the places below j -/
def aT (Y : Int) (c : Nat → Nat → Nat → Int) (j a b : Nat) (k : Int) : Prop := a < j ∧ (sUp Y c a b k ∨ sDn Y c a b k)
theorem lp_side {c : Nat → Nat → Nat → Int} {Y y s : Nat} (hY : Y ≤ 30) (hy : y < Y) (hs : s < 2) (v : Nat → Nat → Int) (hN : LN L xs v c) (h : MH v (aT (Y : Int) c (2 * y + s))) : ∃ v', qG L xs (d + 91) CX12_asksSteps 42 [(2, 63), (0, (Y : Int)), (0, (y : Int)), (0, (s : Int))] [] (qS v) = qG L xs (d + 91) CX12_asksSteps 99 [(2, 63), (0, (Y : Int)), (0, (y : Int)), (0, (s : Int))] [] (qS v') ∧ fA v v' ∧ MH v' (aT (Y : Int) c (2 * y + s + 1)) := by
  have c1 : (2 * y + s) / 2 = y := by omega
  have c2 : (2 * y + s) % 2 = s := by omega
  have A : ∃ v1, qG L xs (d + 91) CX12_asksSteps 42 [(2, 63), (0, (Y : Int)), (0, (y : Int)), (0, (s : Int))] [] (qS v) = qG L xs (d + 91) CX12_asksSteps 72 [(2, 63), (0, (Y : Int)), (0, (y : Int)), (0, (s : Int))] [] (qS v1) ∧ fA v v1 ∧ MH v1 (fun a b k => aT (Y : Int) c (2 * y + s) a b k ∨ (a = 2 * y + s ∧ sUp (Y : Int) c a b k)) := by
    by_cases g : y + 1 < Y
    · obtain ⟨w1, e1, e2⟩ := hN.2 v (gN_r v) (d + 1) y s 1 (by omega) hs (by omega)
      have hk := hN.1 y s 1
      obtain ⟨w2, e3, e4, e5⟩ := m_leads (L := L) (xs := xs) (d := d + 90) (MH_cg (e2.1 74 (by decide) (by decide)) h) (a := 2 * y + s) (b := 2 * y + 2 + s) (by omega) (by omega) hk
      refine ⟨w2, ?_, fA_t (fK_A e2) (fA_74 e4), MH_if (fun a b k => ?_) e5⟩
      · have e1' : qE L xs (d + 91) nX12_walksFor [(2, 63), (0, (y : Int)), (0, (s : Int)), (0, 1)] (qS v) = _ := e1
        rw [b_X12_asksSteps_42, w32_id (by omega) (by omega), if_pos (by omega), b_X12_asksSteps_49, e1', qB_some, psh_some, w32_id (z := 2 * (y : Int)) (by omega) (by omega), w32_id (z := 2 * (y : Int) + 2) (by omega) (by omega), w32_id (z := 2 * (y : Int) + 2 + (s : Int)) (by omega) (by omega), w32_id (z := 2 * (y : Int) + (s : Int)) (by omega) (by omega), b_X12_asksSteps_69, show 2 * (y : Int) + 2 + (s : Int) = ((2 * y + 2 + s : Nat) : Int) by omega, show 2 * (y : Int) + (s : Int) = ((2 * y + s : Nat) : Int) by omega, e3, qB_some, psh_none]
      · constructor
        · rintro (w | ⟨rfl, rfl, rfl⟩)
          · exact Or.inl w
          · exact Or.inr ⟨rfl, by omega, by omega, by rw [c1, c2]⟩
        · rintro (w | ⟨rfl, w1, w2, w3⟩)
          · exact Or.inl w
          · rw [c1, c2] at w3
            exact Or.inr ⟨rfl, by omega, w3⟩
    · refine ⟨v, ?_, fA_r v, MH_if (fun a b k => ?_) h⟩
      · rw [b_X12_asksSteps_42, w32_id (by omega) (by omega), if_neg (by omega)]
      · constructor
        · exact Or.inl
        · rintro (w | ⟨rfl, w1, w2, w3⟩)
          · exact w
          · omega
  obtain ⟨v1, e1, e2, e3⟩ := A
  have hN1 := LN_N hN (fA_N e2)
  by_cases g : 0 < y
  · obtain ⟨w1, e4, e5⟩ := hN1.2 v1 (gN_r v1) (d + 1) y s 0 (by omega) hs (by omega)
    have hk := hN1.1 y s 0
    obtain ⟨w2, e6, e7, e8⟩ := m_leads (L := L) (xs := xs) (d := d + 90) (MH_cg (e5.1 74 (by decide) (by decide)) e3) (a := 2 * y + s) (b := 2 * y - 2 + s) (by omega) (by omega) hk
    refine ⟨w2, ?_, fA_t e2 (fA_t (fK_A e5) (fA_74 e7)), MH_if (fun a b k => ?_) e8⟩
    · have e4' : qE L xs (d + 91) nX12_walksFor [(2, 63), (0, (y : Int)), (0, (s : Int)), (0, 0)] (qS v1) = _ := e4
      rw [e1, b_X12_asksSteps_72, if_pos (by omega), b_X12_asksSteps_76, e4', qB_some, psh_some, w32_id (z := 2 * (y : Int)) (by omega) (by omega), w32_id (z := 2 * (y : Int) - 2) (by omega) (by omega), w32_id (z := 2 * (y : Int) - 2 + (s : Int)) (by omega) (by omega), w32_id (z := 2 * (y : Int) + (s : Int)) (by omega) (by omega), b_X12_asksSteps_96, show 2 * (y : Int) - 2 + (s : Int) = ((2 * y - 2 + s : Nat) : Int) by omega, show 2 * (y : Int) + (s : Int) = ((2 * y + s : Nat) : Int) by omega, e6, qB_some, psh_none]
    · constructor
      · rintro ((⟨w1, w2⟩ | ⟨rfl, w⟩) | ⟨rfl, rfl, rfl⟩)
        · exact ⟨by omega, w2⟩
        · exact ⟨by omega, Or.inl w⟩
        · exact ⟨by omega, Or.inr ⟨by omega, by omega, by rw [c1, c2]⟩⟩
      · rintro ⟨w1, w2⟩
        by_cases ha : a = 2 * y + s
        · subst ha
          rcases w2 with w | ⟨w3, w4, w5⟩
          · exact Or.inl (Or.inr ⟨rfl, w⟩)
          · rw [c1, c2] at w5
            exact Or.inr ⟨rfl, by omega, w5⟩
        · exact Or.inl (Or.inl ⟨by omega, w2⟩)
  · refine ⟨v1, ?_, e2, MH_if (fun a b k => ?_) e3⟩
    · rw [e1, b_X12_asksSteps_72, if_neg (by omega)]
    · constructor
      · rintro (⟨w1, w2⟩ | ⟨rfl, w⟩)
        · exact ⟨by omega, w2⟩
        · exact ⟨by omega, Or.inl w⟩
      · rintro ⟨w1, w2⟩
        by_cases ha : a = 2 * y + s
        · subst ha
          rcases w2 with w | ⟨w3, w4, w5⟩
          · exact Or.inr ⟨rfl, w⟩
          · omega
        · exact Or.inl ⟨by omega, w2⟩
theorem lp_along {c : Nat → Nat → Nat → Int} {Y : Nat} (hY : Y ≤ 30) : ∀ (n y : Nat) (v : Nat → Nat → Int) (u3 : pm_V), y + n = Y → LN L xs v c → MH v (aT (Y : Int) c (2 * y)) → ∃ v' w3, qG L xs (d + 91) CX12_asksSteps 30 [(2, 63), (0, (Y : Int)), (0, (y : Int)), u3] [] (qS v) = qG L xs (d + 91) CX12_asksSteps 111 [(2, 63), (0, (Y : Int)), (0, (Y : Int)), w3] [] (qS v') ∧ fA v v' ∧ MH v' (aT (Y : Int) c (2 * Y))
  | 0, y, v, u3, hy, hN, h => by
    have hyY : y = Y := by omega
    subst hyY
    refine ⟨v, u3, ?_, fA_r v, h⟩
    rw [b_X12_asksSteps_30, if_neg (by omega)]
  | n + 1, y, v, u3, hy, hN, h => by
    obtain ⟨v1, e1, e2, e3⟩ := lp_side (L := L) (xs := xs) (d := d) (s := 0) hY (show y < Y by omega) (by omega) v hN h
    obtain ⟨v2, e4, e5, e6⟩ := lp_side (L := L) (xs := xs) (d := d) (s := 1) hY (show y < Y by omega) (by omega) v1 (LN_N hN (fA_N e2)) e3
    have f2 := fA_t e2 e5
    obtain ⟨v3, w3, e7, e8, e9⟩ := lp_along hY n (y + 1) v2 (0, 2) (by omega) (LN_N hN (fA_N f2)) e6
    refine ⟨v3, w3, ?_, fA_t f2 e8, e9⟩
    refine Eq.trans ?_ e7
    rw [b_X12_asksSteps_30, if_pos (by omega), b_X12_asksSteps_35, b_X12_asksSteps_37, if_pos (by omega)]
    refine Eq.trans e1 ?_
    rw [b_X12_asksSteps_99, w32_id (by omega) (by omega), b_X12_asksSteps_37, if_pos (by omega)]
    refine Eq.trans e4 ?_
    rw [b_X12_asksSteps_99, w32_id (by omega) (by omega), b_X12_asksSteps_37, if_neg (by omega), b_X12_asksSteps_105, w32_id (by omega) (by omega)]
    rfl
theorem lp_ahole {R : Nat → Nat → Nat → Int → Prop} {T0 : Nat → Nat → Int → Prop} {H : Nat} {sh : Int} (x1 : Int) : ∀ (n h : Nat) (v : Nat → Nat → Int) (u3 : pm_V), h + n = H → v 1 1 = (H : Int) → WW v → CW v → v 63 23 = sh → sHo v = R → MH v (fun a b k => T0 a b k ∨ ∃ j : Nat, j < h ∧ (j : Int) ≠ sh ∧ R j a b k) → ∃ v', qG L xs (d + 4) CX12_asksSteps 113 [(2, 63), (0, x1), (0, (h : Int)), u3] [] (qS v) = qG L xs (d + 4) CX12_asksSteps 181 [(2, 63), (0, x1), (0, (H : Int)), u3] [] (qS v') ∧ (∀ c, c ≠ 74 → v' c = v c) ∧ MH v' (fun a b k => T0 a b k ∨ ∃ j : Nat, j < H ∧ (j : Int) ≠ sh ∧ R j a b k)
  | 0, h, v, u3, hh, hH, hW, hC, hsh, hR, hM => by
    have hhH : h = H := by omega
    subst hhH
    refine ⟨v, ?_, fun _ _ => rfl, hM⟩
    rw [b_X12_asksSteps_113, if_neg (by rw [hC.1.2.1]; omega)]
  | n + 1, h, v, u3, hh, hH, hW, hC, hsh, hR, hM => by
    have hW0 := hW
    have hC0 := hC
    obtain ⟨q1, q2, q3, q4, q5, q6⟩ := hW
    obtain ⟨⟨k1, k2, k3, k4, k5⟩, k6, k7⟩ := hC
    obtain ⟨j1, j2, j3⟩ := k6 h (by omega)
    have r4 := (q4 h (by omega)).1
    have a0 : qG L xs (d + 4) CX12_asksSteps 113 [(2, 63), (0, x1), (0, (h : Int)), u3] [] (qS v) = (if (0 ≤ v 15 h ∧ v 15 h < v 11 0) ∧ v 6 h = 1 ∧ (h : Int) ≠ sh then qG L xs (d + 4) CX12_asksSteps 156 [(2, 63), (0, x1), (0, (h : Int)), u3] [] (qS v) else qG L xs (d + 4) CX12_asksSteps 175 [(2, 63), (0, x1), (0, (h : Int)), u3] [] (qS v)) := by
      rw [b_X12_asksSteps_113, if_pos (by omega), b_X12_asksSteps_121, if_pos (by omega), Int.toNat_natCast, j1, b_X12_asksSteps_128, c_isYard (by omega) (by omega), qB_some, psh_some, b_X12_asksSteps_132, zb_0, k1]
      by_cases g1 : 0 ≤ v 15 h ∧ v 15 h < v 11 0
      · rw [if_pos g1, b_X12_asksSteps_135, w32_id (by omega) (by omega), if_pos (by omega), show (90 + (h : Int)).toNat = 90 + h by omega, j2, b_X12_asksSteps_144]
        by_cases g2 : v 6 h = 1
        · rw [if_pos g2, b_X12_asksSteps_148, hsh]
          by_cases g3 : (h : Int) = sh
          · rw [if_pos g3, if_neg (fun q => q.2.2 g3)]
          · rw [if_neg g3, if_pos ⟨g1, g2, g3⟩]
        · rw [if_neg g2, if_neg (fun q => g2 q.2.1)]
      · rw [if_neg g1, if_neg (fun q => g1 q.1)]
    by_cases g : (0 ≤ v 15 h ∧ v 15 h < v 11 0) ∧ v 6 h = 1 ∧ (h : Int) ≠ sh
    · obtain ⟨v1, e1, e2, e3⟩ := m_through (L := L) (xs := xs) (d := d + 2) hM (y := (v 15 h).toNat) (by omega) (k := v 7 h) (by omega)
      have f1 := fA_N (fA_74 e2)
      obtain ⟨v2, e4, e5, e6⟩ := lp_ahole (H := H) (R := R) (sh := sh) x1 n (h + 1) v1 u3 (by omega) (by rw [e2 1 (by decide)]; exact hH) (by rw [WW_N f1]; exact hW0) (by rw [CW_N f1]; exact hC0) (by rw [e2 63 (by decide)]; exact hsh) (by rw [sHo_N f1]; exact hR) (MH_if (fun a b k => by
        have hRh : ∀ a b k, R h a b k ↔ (thr (v 15 h).toNat a b ∧ k = v 7 h) := fun a b k => by
          rw [← hR]
          exact ⟨fun w => w.2, fun w => ⟨⟨g.2.1, g.1⟩, w⟩⟩
        constructor
        · rintro ((g1 | ⟨j, g1, g2, g3⟩) | g1)
          · exact Or.inl g1
          · exact Or.inr ⟨j, by omega, g2, g3⟩
          · exact Or.inr ⟨h, by omega, g.2.2, (hRh a b k).mpr g1⟩
        · rintro (g1 | ⟨j, g1, g2, g3⟩)
          · exact Or.inl (Or.inl g1)
          · by_cases hj : j = h
            · subst hj
              exact Or.inr ((hRh a b k).mp g3)
            · exact Or.inl (Or.inr ⟨j, by omega, g2, g3⟩)) e3)
      refine ⟨v2, ?_, fun c hc => (e5 c hc).trans (e2 c hc), e6⟩
      refine Eq.trans ?_ e4
      have e1' : qE L xs (d + 4) nX12_through [(2, 63), (0, v 15 h), (0, v 7 h)] (qS v) = some (none, qS v1) := by
        rw [show ((v 15 h).toNat : Int) = v 15 h by omega] at e1
        exact e1
      rw [a0, if_pos g, b_X12_asksSteps_156, if_pos (by omega), Int.toNat_natCast, j1, b_X12_asksSteps_163, w32_id (by omega) (by omega), if_pos (by omega), show (102 + (h : Int)).toNat = 102 + h by omega, j3, b_X12_asksSteps_172, e1', qB_some, psh_none, b_X12_asksSteps_175, w32_id (by omega) (by omega)]
      rfl
    · obtain ⟨v2, e4, e5, e6⟩ := lp_ahole (H := H) (R := R) (sh := sh) x1 n (h + 1) v u3 (by omega) hH hW0 hC0 hsh hR (MH_if (fun a b k => by
        constructor
        · rintro (g1 | ⟨j, g1, g2, g3⟩)
          · exact Or.inl g1
          · exact Or.inr ⟨j, by omega, g2, g3⟩
        · rintro (g1 | ⟨j, g1, g2, g3⟩)
          · exact Or.inl g1
          · by_cases hj : j = h
            · subst hj
              rw [← hR] at g3
              exact absurd ⟨g3.1.2, g3.1.1, g2⟩ g
            · exact Or.inr ⟨j, by omega, g2, g3⟩) hM)
      refine ⟨v2, ?_, e5, e6⟩
      refine Eq.trans ?_ e4
      rw [a0, if_neg g, b_X12_asksSteps_175, w32_id (by omega) (by omega)]
      rfl
end AL
