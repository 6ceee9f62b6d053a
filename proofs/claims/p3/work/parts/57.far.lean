/-! FAR, REACH: over any wall and law -/
section FA
variable {L : Nat} {xs : Nat → Int} {d : Nat} {v : Nat → Nat → Int} {c : Nat → Nat → Nat → Int} {P : Nat}
/-- wall and law are the same on both sides -/
def Wz (L : Nat) (xs : Nat → Int) (v : Nat → Nat → Int) (c : Nat → Nat → Nat → Int) : Prop := WW v ∧ CW v ∧ LM L xs v c ∧ LN L xs v c ∧ v 63 22 = -1 ∧ v 63 23 = -1 ∧ v 63 24 = -1
theorem CW_W {v w : Nat → Nat → Int} (h : fW v w) : CW w = CW v := by
  unfold CW
  rw [fW_c h (c := 64) (by omega), fW_c h (c := 68) (by omega), fW_c h (c := 69) (by omega), fW_c h (c := 70) (by omega), fW_c h (c := 1) (by omega), fW_c h (c := 6) (by omega), fW_c h (c := 7) (by omega), fW_c h (c := 8) (by omega), fW_c h (c := 9) (by omega), fW_c h (c := 10) (by omega), fW_c h (c := 11) (by omega), fW_c h (c := 15) (by omega), fW_c h (c := 16) (by omega), fW_c h (c := 17) (by omega), fW_c h (c := 63) (by omega)]
theorem Wz_W {v w : Nat → Nat → Int} (hw : fW v w) (h : Wz L xs v c) : Wz L xs w c := by
  obtain ⟨h1, h2, h3, h4, h5, h6, h7⟩ := h
  refine ⟨by rw [WW_W hw]; exact h1, by rw [CW_W hw]; exact h2, LM_W h3 hw, LN_g h4 (fW_gN hw), ?_, ?_, ?_⟩
  · rw [fW_c hw (c := 63) (by omega)]; exact h5
  · rw [fW_c hw (c := 63) (by omega)]; exact h6
  · rw [fW_c hw (c := 63) (by omega)]; exact h7
/-- what the reference's ways change: these numbers as before -/
def fP (v w : Nat → Nat → Int) : Prop := fN v w ∧ w 63 22 = v 63 22 ∧ w 63 23 = v 63 23 ∧ w 63 24 = v 63 24
theorem fP_r (v : Nat → Nat → Int) : fP v v := ⟨fN_r v, rfl, rfl, rfl⟩
theorem fP_t {v w u : Nat → Nat → Int} (h1 : fP v w) (h2 : fP w u) : fP v u := ⟨fN_t h1.1 h2.1, h2.2.1.trans h1.2.1, h2.2.2.1.trans h1.2.2.1, h2.2.2.2.trans h1.2.2.2⟩
theorem fA_P {v w : Nat → Nat → Int} (h : fA v w) : fP v w := ⟨fA_N h, h.2 22 (by omega), h.2 23 (by omega), h.2 24 (by omega)⟩
theorem fP_75 {v w : Nat → Nat → Int} (h : ∀ c, c ≠ 75 → c ≠ 76 → w c = v c) : fP v w := ⟨fN_own (fun c hc => h c (by omega) (by omega)), by rw [h 63 (by omega) (by omega)], by rw [h 63 (by omega) (by omega)], by rw [h 63 (by omega) (by omega)]⟩
/-- class and reference alike: minutes, or none -/
def Rl (x y : Int) : Prop := (0 ≤ x ∧ x ≤ 5841 ∧ y = x) ∨ (x = 9999 ∧ y = 1000000)
theorem Lst_Rl {E : Nat → Nat → Int → Prop} {s p : Nat} {x y : Int} (h : Lst E s p 9999 x) (h' : Lst E s p 1000000 y) : Rl x y := by
  rcases Lst_one h h' with ⟨h1, h2, h3, -⟩ | ⟨h1, h2, -⟩
  · exact Or.inl ⟨h1, h2, h3⟩
  · exact Or.inr ⟨h1, h2⟩
theorem EC_all {v' : Nat → Nat → Int} {S : Nat} (hW : WW v) (h : LyI v' S P (TT v c)) : EC v' S (-1) = SG v c (-1) (-1) (-1) := (EC_E hW h (by decide)).trans rfl
theorem c_ways (hW : WW v) (hM : LM L xs v c) (hP : 2 * v 11 0 = (P : Int)) {s : Nat} (hs : s < P) : ∃ v1 v2 S, qE L xs (d + 10) nX10_lay [(2, 29), (2, 1), (2, 23)] (qS v) = some (none, qS v1) ∧ qE L xs (d + 10) nX10_spread [(2, 29), (0, (s : Int)), (0, -1)] (qS v1) = some (none, qS v2) ∧ fW v v2 ∧ WOK v2 S P ∧ ∀ p, p < P → Lst (SG v c (-1) (-1) (-1)) s p 9999 (v2 34 p) := by
  obtain ⟨v1, S, e1, e2, e3⟩ := c_lay (L := L) (xs := xs) (d := d) hW hP hM
  obtain ⟨v2, e4, e5, e6⟩ := c_from (L := L) (xs := xs) (d := d + 7) e3.1 (EC_all hW e3) hs
  exact ⟨v1, v2, S, e1, e4, fW_t e2 (fW_own (fun c hc => e5 c (by omega))), WOK_cg e5 e3.1, e6⟩
theorem m_ways (hz : Wz L xs v c) (hP : 2 * v 11 0 = (P : Int)) {s : Nat} (hs : s < P) : ∃ v1 v2, qE L xs (d + 92) nX12_asksSteps [(2, 63)] (qS v) = some (none, qS v1) ∧ qE L xs (d + 92) nX12_goesFrom [(2, 63), (0, (s : Int))] (qS v1) = some (none, qS v2) ∧ fP v v2 ∧ ∀ p, p < P → Lst (SG v c (-1) (-1) (-1)) s p 1000000 (v2 75 p) := by
  obtain ⟨hW, hC, hM, hN, h5, h6, h7⟩ := hz
  have hW0 := hW
  obtain ⟨q1, -⟩ := hW0
  obtain ⟨v1, e1, e2, e3⟩ := m_asks (L := L) (xs := xs) (d := d) hW hC hN h5 h6 h7 (by omega)
  have hT := SG_ok (al := -1) (sh := -1) (sl := -1) hW hM.1 hP (by omega)
  obtain ⟨v2, e4, e5, e6⟩ := m_from (L := L) (xs := xs) (d := d + 90) (v := v1) (by omega) (by rw [fN_c (fA_N e2) (c := 64) (by omega), hC.1.1]; exact hP) hT e3 hs
  exact ⟨v1, v2, e1, e4, fP_t (fA_P e2) (fP_75 e5), e6⟩
/-- the greatest so far, where it is, how many -/
def foM (m : Nat → Int) (I : Int) : Nat → Int
  | 0 => -1
  | j + 1 => if m j < I ∧ foM m I j < m j then m j else foM m I j
def foW (m : Nat → Int) (I w0 : Int) : Nat → Int
  | 0 => w0
  | j + 1 => if m j < I ∧ foM m I j < m j then (j : Int) else foW m I w0 j
def foC (m : Nat → Int) (x : Int) : Nat → Int
  | 0 => 0
  | j + 1 => foC m x j + (if x < m j then 0 else 1)
theorem foC_in (m : Nat → Int) (x : Int) : ∀ j : Nat, 0 ≤ foC m x j ∧ foC m x j ≤ (j : Int)
  | 0 => ⟨by show (0 : Int) ≤ 0; omega, by show (0 : Int) ≤ ((0 : Nat) : Int); omega⟩
  | j + 1 => by
    have h := foC_in m x j
    unfold foC
    split <;> omega
theorem lp_count {m : Nat → Int} {x : Int} (hm : v 34 = m) (h9 : v 29 9 = (P : Int)) (hP : P ≤ 60) : ∀ (n j : Nat), j + n = P → qG L xs d CX10_countWithin 4 [(2, 29), (0, x), (0, foC m x j), (0, (j : Int))] [] (qS v) = some (some (0, foC m x P), qS v)
  | 0, j, hj => by
    rw [b_X10_countWithin_4, if_neg (by omega), b_X10_countWithin_36, show j = P by omega]
  | n + 1, j, hj => by
    have h3 := lp_count (x := x) hm h9 hP n (j + 1) (by omega)
    have hc := foC_in m x j
    rw [show ((j + 1 : Nat) : Int) = (j : Int) + 1 by omega] at h3
    refine Eq.trans ?_ h3
    rw [b_X10_countWithin_4, if_pos (by omega), b_X10_countWithin_12, if_pos (by omega), Int.toNat_natCast, hm, b_X10_countWithin_19]
    have e : foC m x (j + 1) = foC m x j + (if x < m j then 0 else 1) := rfl
    rw [e]
    by_cases g : x < m j
    · rw [if_pos g, if_pos g, b_X10_countWithin_27, b_X10_countWithin_28, w32_id (by omega) (by omega), w32_id (by omega) (by omega)]
    · rw [if_neg g, if_neg g, b_X10_countWithin_23, b_X10_countWithin_28, w32_id (by omega) (by omega), w32_id (by omega) (by omega)]
theorem c_count {m : Nat → Int} (x : Int) (hm : v 34 = m) (h9 : v 29 9 = (P : Int)) (hP : P ≤ 60) : qE L xs (d + 1) nX10_countWithin [(2, 29), (0, x)] (qS v) = some (some (0, foC m x P), qS v) := by
  rw [e_X10_countWithin, b_X10_countWithin_0]
  exact lp_count (x := x) hm h9 hP P 0 (by omega)
theorem lp_farthest {m : Nat → Int} (hm : v 34 = m) (h9 : v 29 9 = (P : Int)) (hP : P ≤ 60) : ∀ (n j : Nat), j + n = P → qG L xs d CX10_farthest 6 [(2, 29), (0, foW m 9999 (-1) j), (0, foM m 9999 j), (0, (j : Int))] [] (qS v) = some (some (0, foW m 9999 (-1) P), qS v)
  | 0, j, hj => by
    rw [b_X10_farthest_6, if_neg (by omega), b_X10_farthest_51, show j = P by omega]
  | n + 1, j, hj => by
    have h3 := lp_farthest hm h9 hP n (j + 1) (by omega)
    rw [show ((j + 1 : Nat) : Int) = (j : Int) + 1 by omega] at h3
    refine Eq.trans ?_ h3
    have e1 : foM m 9999 (j + 1) = if m j < 9999 ∧ foM m 9999 j < m j then m j else foM m 9999 j := rfl
    have e2 : foW m 9999 (-1) (j + 1) = if m j < 9999 ∧ foM m 9999 j < m j then (j : Int) else foW m 9999 (-1) j := rfl
    rw [e1, e2, b_X10_farthest_6, if_pos (by omega), b_X10_farthest_14, if_pos (by omega), Int.toNat_natCast, hm, b_X10_farthest_20]
    by_cases g : m j < 9999
    · rw [if_pos g, b_X10_farthest_26, if_pos (by omega), Int.toNat_natCast, hm, b_X10_farthest_32]
      by_cases g2 : foM m 9999 j < m j
      · rw [if_pos g2, if_pos ⟨g, g2⟩, if_pos ⟨g, g2⟩, b_X10_farthest_36, if_pos (by omega), Int.toNat_natCast, hm, b_X10_farthest_42, b_X10_farthest_45, w32_id (by omega) (by omega)]
      · rw [if_neg g2, if_neg (fun q => g2 q.2), if_neg (fun q => g2 q.2), b_X10_farthest_45, w32_id (by omega) (by omega)]
    · rw [if_neg g, if_neg (fun q => g q.1), if_neg (fun q => g q.1), b_X10_farthest_45, w32_id (by omega) (by omega)]
theorem c_farthest {m : Nat → Int} (hm : v 34 = m) (h9 : v 29 9 = (P : Int)) (hP : P ≤ 60) : qE L xs (d + 1) nX10_farthest [(2, 29)] (qS v) = some (some (0, foW m 9999 (-1) P), qS v) := by
  rw [e_X10_farthest, b_X10_farthest_0]
  exact lp_farthest hm h9 hP P 0 (by omega)
theorem c_minutes {S : Nat} (h : WOK v S P) {p : Nat} (hp : p < P) : qE L xs (d + 2) nX10_minutes [(2, 29), (0, (p : Int))] (qS v) = some (some (0, v 34 p), qS v) := by
  have hP := h.2.2.2.1
  rw [e_X10_minutes, b_X10_minutes_0, c_isThere h, qB_some, psh_some, b_X10_minutes_5, zb_0, if_pos (by omega), b_X10_minutes_8, if_pos (by omega), Int.toNat_natCast, b_X10_minutes_14, b_X10_minutes_20]
/-- where the greatest is -/
theorem foW_in {m : Nat → Int} {w0 : Int} (hm : ∀ p, p < P → 0 ≤ m p ∨ 9999 ≤ m p) : ∀ j : Nat, j ≤ P → (foM m 9999 j = -1 ∧ foW m 9999 w0 j = w0 ∧ ∀ p, p < j → ¬ m p < 9999) ∨ (0 ≤ foM m 9999 j ∧ 0 ≤ foW m 9999 w0 j ∧ foW m 9999 w0 j < (j : Int) ∧ m (foW m 9999 w0 j).toNat = foM m 9999 j ∧ ∀ w1, foW m 9999 w1 j = foW m 9999 w0 j)
  | 0, _ => Or.inl ⟨rfl, rfl, fun p hp => absurd hp (by omega)⟩
  | j + 1, hjP => by
    have h := foW_in (w0 := w0) hm j (by omega)
    have hj := hm j (by omega)
    have e1 : foM m 9999 (j + 1) = if m j < 9999 ∧ foM m 9999 j < m j then m j else foM m 9999 j := rfl
    have e2 : ∀ w, foW m 9999 w (j + 1) = if m j < 9999 ∧ foM m 9999 j < m j then (j : Int) else foW m 9999 w j := fun _ => rfl
    by_cases g : m j < 9999 ∧ foM m 9999 j < m j
    · refine Or.inr ?_
      rw [e1, e2, if_pos g, if_pos g]
      refine ⟨by omega, by omega, by omega, by rw [Int.toNat_natCast], fun w1 => ?_⟩
      rw [e2, if_pos g]
    · rw [e1, e2, if_neg g, if_neg g]
      rcases h with ⟨h1, h2, h3⟩ | ⟨h1, h2, h3, h4, h5⟩
      · refine Or.inl ⟨h1, h2, fun p hp hq => ?_⟩
        by_cases hpj : p = j
        · subst hpj
          exact g ⟨hq, by omega⟩
        · exact h3 p (by omega) hq
      · refine Or.inr ⟨h1, h2, by omega, h4, fun w1 => ?_⟩
        rw [e2, if_neg g]
        exact h5 w1
end FA
