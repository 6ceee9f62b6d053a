/-! JOINED: 57.far, 58.farb, 59.way, 60.wayb, 61.wide, 62.spare, 63.dig, 64.digb -/
section
/-! FAR, REACH: over any wall and law -/
section FA
variable {L : Nat} {xs : Nat → Int} {d : Nat} {v : Nat → Nat → Int} {c : Nat → Nat → Nat → Int} {P : Nat}
/-- wall and law are the same on both sides -/
def Wz (L : Nat) (xs : Nat → Int) (v : Nat → Nat → Int) (c : Nat → Nat → Nat → Int) : Prop := WW v ∧ CW v ∧ LM L xs v c ∧ LN L xs v c ∧ v 63 22 = -1 ∧ v 63 23 = -1 ∧ v 63 24 = -1
theorem CW_W {v w : Nat → Nat → Int} (h : fW v w) : CW w = CW v := by
  unfold CW
  rw [fW_c h (c := 64) (by omega), fW_c h (c := 68) (by omega), fW_c h (c := 69) (by omega), fW_c h (c := 70) (by omega), fW_c h (c := 1) (by omega), fW_c h (c := 6) (by omega), fW_c h (c := 7) (by omega), fW_c h (c := 8) (by omega), fW_c h (c := 9) (by omega), fW_c h (c := 10) (by omega), fW_c h (c := 11) (by omega), fW_c h (c := 15) (by omega), fW_c h (c := 16) (by omega), fW_c h (c := 17) (by omega), fW_c h (c := 63) (by omega)]
theorem Wz_W {v w : Nat → Nat → Int} (hw : fW v w) (h : Wz L xs v c) : Wz L xs w c := by
  obtain ⟨h1, h2, h3, h4, h5, h6, h7⟩ := h
  refine ⟨by rw [WW_W hw]; exact h1, by rw [CW_W hw]; exact h2, LM_W h3 hw, LN_g h4 (fW_gN hw), ?_, ?_, ?_⟩
  · rw [fW_c hw (c := 63) (by omega)]; exact h5
  · rw [fW_c hw (c := 63) (by omega)]; exact h6
  · rw [fW_c hw (c := 63) (by omega)]; exact h7
/-- what the reference's ways change: these numbers as before -/
def fP (v w : Nat → Nat → Int) : Prop := fN v w ∧ w 63 22 = v 63 22 ∧ w 63 23 = v 63 23 ∧ w 63 24 = v 63 24
theorem fP_r (v : Nat → Nat → Int) : fP v v := ⟨fN_r v, rfl, rfl, rfl⟩
theorem fP_t {v w u : Nat → Nat → Int} (h1 : fP v w) (h2 : fP w u) : fP v u := ⟨fN_t h1.1 h2.1, h2.2.1.trans h1.2.1, h2.2.2.1.trans h1.2.2.1, h2.2.2.2.trans h1.2.2.2⟩
theorem fA_P {v w : Nat → Nat → Int} (h : fA v w) : fP v w := ⟨fA_N h, h.2 22 (by omega), h.2 23 (by omega), h.2 24 (by omega)⟩
theorem fP_75 {v w : Nat → Nat → Int} (h : ∀ c, c ≠ 75 → c ≠ 76 → w c = v c) : fP v w := ⟨fN_own (fun c hc => h c (by omega) (by omega)), by rw [h 63 (by omega) (by omega)], by rw [h 63 (by omega) (by omega)], by rw [h 63 (by omega) (by omega)]⟩
/-- class and reference alike: minutes, or none -/
def Rl (x y : Int) : Prop := (0 ≤ x ∧ x ≤ 5841 ∧ y = x) ∨ (x = 9999 ∧ y = 1000000)
theorem Lst_Rl {E : Nat → Nat → Int → Prop} {s p : Nat} {x y : Int} (h : Lst E s p 9999 x) (h' : Lst E s p 1000000 y) : Rl x y := by
  rcases Lst_one h h' with ⟨h1, h2, h3, -⟩ | ⟨h1, h2, -⟩
  · exact Or.inl ⟨h1, h2, h3⟩
  · exact Or.inr ⟨h1, h2⟩
theorem EC_all {v' : Nat → Nat → Int} {S : Nat} (hW : WW v) (h : LyI v' S P (TT v c)) : EC v' S (-1) = SG v c (-1) (-1) (-1) := (EC_E hW h (by decide)).trans rfl
theorem c_ways (hW : WW v) (hM : LM L xs v c) (hP : 2 * v 11 0 = (P : Int)) {s : Nat} (hs : s < P) : ∃ v1 v2 S, qE L xs (d + 10) nX10_lay [(2, 29), (2, 1), (2, 23)] (qS v) = some (none, qS v1) ∧ qE L xs (d + 10) nX10_spread [(2, 29), (0, (s : Int)), (0, -1)] (qS v1) = some (none, qS v2) ∧ fW v v2 ∧ WOK v2 S P ∧ ∀ p, p < P → Lst (SG v c (-1) (-1) (-1)) s p 9999 (v2 34 p) := by
  obtain ⟨v1, S, e1, e2, e3⟩ := c_lay (L := L) (xs := xs) (d := d) hW hP hM
  obtain ⟨v2, e4, e5, e6⟩ := c_from (L := L) (xs := xs) (d := d + 7) e3.1 (EC_all hW e3) hs
  exact ⟨v1, v2, S, e1, e4, fW_t e2 (fW_own (fun c hc => e5 c (by omega))), WOK_cg e5 e3.1, e6⟩
theorem m_ways (hz : Wz L xs v c) (hP : 2 * v 11 0 = (P : Int)) {s : Nat} (hs : s < P) : ∃ v1 v2, qE L xs (d + 92) nX12_asksSteps [(2, 63)] (qS v) = some (none, qS v1) ∧ qE L xs (d + 92) nX12_goesFrom [(2, 63), (0, (s : Int))] (qS v1) = some (none, qS v2) ∧ fP v v2 ∧ ∀ p, p < P → Lst (SG v c (-1) (-1) (-1)) s p 1000000 (v2 75 p) := by
  obtain ⟨hW, hC, hM, hN, h5, h6, h7⟩ := hz
  have hW0 := hW
  obtain ⟨q1, -⟩ := hW0
  obtain ⟨v1, e1, e2, e3⟩ := m_asks (L := L) (xs := xs) (d := d) hW hC hN h5 h6 h7 (by omega)
  have hT := SG_ok (al := -1) (sh := -1) (sl := -1) hW hM.1 hP (by omega)
  obtain ⟨v2, e4, e5, e6⟩ := m_from (L := L) (xs := xs) (d := d + 90) (v := v1) (by omega) (by rw [fN_c (fA_N e2) (c := 64) (by omega), hC.1.1]; exact hP) hT e3 hs
  exact ⟨v1, v2, e1, e4, fP_t (fA_P e2) (fP_75 e5), e6⟩
/-- the greatest so far, where it is, how many -/
def foM (m : Nat → Int) (I : Int) : Nat → Int
  | 0 => -1
  | j + 1 => if m j < I ∧ foM m I j < m j then m j else foM m I j
def foW (m : Nat → Int) (I w0 : Int) : Nat → Int
  | 0 => w0
  | j + 1 => if m j < I ∧ foM m I j < m j then (j : Int) else foW m I w0 j
def foC (m : Nat → Int) (x : Int) : Nat → Int
  | 0 => 0
  | j + 1 => foC m x j + (if x < m j then 0 else 1)
theorem foC_in (m : Nat → Int) (x : Int) : ∀ j : Nat, 0 ≤ foC m x j ∧ foC m x j ≤ (j : Int)
  | 0 => ⟨by show (0 : Int) ≤ 0; omega, by show (0 : Int) ≤ ((0 : Nat) : Int); omega⟩
  | j + 1 => by
    have h := foC_in m x j
    unfold foC
    split <;> omega
theorem lp_count {m : Nat → Int} {x : Int} (hm : v 34 = m) (h9 : v 29 9 = (P : Int)) (hP : P ≤ 60) : ∀ (n j : Nat), j + n = P → qG L xs d CX10_countWithin 4 [(2, 29), (0, x), (0, foC m x j), (0, (j : Int))] [] (qS v) = some (some (0, foC m x P), qS v)
  | 0, j, hj => by
    rw [b_X10_countWithin_4, if_neg (by omega), b_X10_countWithin_36, show j = P by omega]
  | n + 1, j, hj => by
    have h3 := lp_count (x := x) hm h9 hP n (j + 1) (by omega)
    have hc := foC_in m x j
    rw [show ((j + 1 : Nat) : Int) = (j : Int) + 1 by omega] at h3
    refine Eq.trans ?_ h3
    rw [b_X10_countWithin_4, if_pos (by omega), b_X10_countWithin_12, if_pos (by omega), Int.toNat_natCast, hm, b_X10_countWithin_19]
    have e : foC m x (j + 1) = foC m x j + (if x < m j then 0 else 1) := rfl
    rw [e]
    by_cases g : x < m j
    · rw [if_pos g, if_pos g, b_X10_countWithin_27, b_X10_countWithin_28, w32_id (by omega) (by omega), w32_id (by omega) (by omega)]
    · rw [if_neg g, if_neg g, b_X10_countWithin_23, b_X10_countWithin_28, w32_id (by omega) (by omega), w32_id (by omega) (by omega)]
theorem c_count {m : Nat → Int} (x : Int) (hm : v 34 = m) (h9 : v 29 9 = (P : Int)) (hP : P ≤ 60) : qE L xs (d + 1) nX10_countWithin [(2, 29), (0, x)] (qS v) = some (some (0, foC m x P), qS v) := by
  rw [e_X10_countWithin, b_X10_countWithin_0]
  exact lp_count (x := x) hm h9 hP P 0 (by omega)
theorem lp_farthest {m : Nat → Int} (hm : v 34 = m) (h9 : v 29 9 = (P : Int)) (hP : P ≤ 60) : ∀ (n j : Nat), j + n = P → qG L xs d CX10_farthest 6 [(2, 29), (0, foW m 9999 (-1) j), (0, foM m 9999 j), (0, (j : Int))] [] (qS v) = some (some (0, foW m 9999 (-1) P), qS v)
  | 0, j, hj => by
    rw [b_X10_farthest_6, if_neg (by omega), b_X10_farthest_51, show j = P by omega]
  | n + 1, j, hj => by
    have h3 := lp_farthest hm h9 hP n (j + 1) (by omega)
    rw [show ((j + 1 : Nat) : Int) = (j : Int) + 1 by omega] at h3
    refine Eq.trans ?_ h3
    have e1 : foM m 9999 (j + 1) = if m j < 9999 ∧ foM m 9999 j < m j then m j else foM m 9999 j := rfl
    have e2 : foW m 9999 (-1) (j + 1) = if m j < 9999 ∧ foM m 9999 j < m j then (j : Int) else foW m 9999 (-1) j := rfl
    rw [e1, e2, b_X10_farthest_6, if_pos (by omega), b_X10_farthest_14, if_pos (by omega), Int.toNat_natCast, hm, b_X10_farthest_20]
    by_cases g : m j < 9999
    · rw [if_pos g, b_X10_farthest_26, if_pos (by omega), Int.toNat_natCast, hm, b_X10_farthest_32]
      by_cases g2 : foM m 9999 j < m j
      · rw [if_pos g2, if_pos ⟨g, g2⟩, if_pos ⟨g, g2⟩, b_X10_farthest_36, if_pos (by omega), Int.toNat_natCast, hm, b_X10_farthest_42, b_X10_farthest_45, w32_id (by omega) (by omega)]
      · rw [if_neg g2, if_neg (fun q => g2 q.2), if_neg (fun q => g2 q.2), b_X10_farthest_45, w32_id (by omega) (by omega)]
    · rw [if_neg g, if_neg (fun q => g q.1), if_neg (fun q => g q.1), b_X10_farthest_45, w32_id (by omega) (by omega)]
theorem c_farthest {m : Nat → Int} (hm : v 34 = m) (h9 : v 29 9 = (P : Int)) (hP : P ≤ 60) : qE L xs (d + 1) nX10_farthest [(2, 29)] (qS v) = some (some (0, foW m 9999 (-1) P), qS v) := by
  rw [e_X10_farthest, b_X10_farthest_0]
  exact lp_farthest hm h9 hP P 0 (by omega)
theorem c_minutes {S : Nat} (h : WOK v S P) {p : Nat} (hp : p < P) : qE L xs (d + 2) nX10_minutes [(2, 29), (0, (p : Int))] (qS v) = some (some (0, v 34 p), qS v) := by
  have hP := h.2.2.2.1
  rw [e_X10_minutes, b_X10_minutes_0, c_isThere h, qB_some, psh_some, b_X10_minutes_5, zb_0, if_pos (by omega), b_X10_minutes_8, if_pos (by omega), Int.toNat_natCast, b_X10_minutes_14, b_X10_minutes_20]
/-- where the greatest is -/
theorem foW_in {m : Nat → Int} {w0 : Int} (hm : ∀ p, p < P → 0 ≤ m p ∨ 9999 ≤ m p) : ∀ j : Nat, j ≤ P → (foM m 9999 j = -1 ∧ foW m 9999 w0 j = w0 ∧ ∀ p, p < j → ¬ m p < 9999) ∨ (0 ≤ foM m 9999 j ∧ 0 ≤ foW m 9999 w0 j ∧ foW m 9999 w0 j < (j : Int) ∧ m (foW m 9999 w0 j).toNat = foM m 9999 j ∧ ∀ w1, foW m 9999 w1 j = foW m 9999 w0 j)
  | 0, _ => Or.inl ⟨rfl, rfl, fun p hp => absurd hp (by omega)⟩
  | j + 1, hjP => by
    have h := foW_in (w0 := w0) hm j (by omega)
    have hj := hm j (by omega)
    have e1 : foM m 9999 (j + 1) = if m j < 9999 ∧ foM m 9999 j < m j then m j else foM m 9999 j := rfl
    have e2 : ∀ w, foW m 9999 w (j + 1) = if m j < 9999 ∧ foM m 9999 j < m j then (j : Int) else foW m 9999 w j := fun _ => rfl
    by_cases g : m j < 9999 ∧ foM m 9999 j < m j
    · refine Or.inr ?_
      rw [e1, e2, if_pos g, if_pos g]
      refine ⟨by omega, by omega, by omega, by rw [Int.toNat_natCast], fun w1 => ?_⟩
      rw [e2, if_pos g]
    · rw [e1, e2, if_neg g, if_neg g]
      rcases h with ⟨h1, h2, h3⟩ | ⟨h1, h2, h3, h4, h5⟩
      · refine Or.inl ⟨h1, h2, fun p hp hq => ?_⟩
        by_cases hpj : p = j
        · subst hpj
          exact g ⟨hq, by omega⟩
        · exact h3 p (by omega) hq
      · refine Or.inr ⟨h1, h2, by omega, h4, fun w1 => ?_⟩
        rw [e2, if_neg g]
        exact h5 w1
end FA
end
section
/-! FAR, REACH: both answer, and alike -/
section FB
variable {L : Nat} {xs : Nat → Int} {d : Nat} {v : Nat → Nat → Int} {c : Nat → Nat → Nat → Int} {P : Nat}
/-- both answer, and alike; only the ways' own numbers change -/
def opW (L : Nat) (xs : Nat → Int) (d : Nat) (v : Nat → Nat → Int) (y1 y2 : Nat) (as : List pm_V) : Prop := ∃ r v1 v2, qE L xs (d + 100) y1 ((2, 0) :: as) (qS v) = some (some (0, r), qS v1) ∧ fW v v1 ∧ qE L xs (d + 100) y2 ((2, 63) :: as) (qS v1) = some (some (0, r), qS v2) ∧ fP v1 v2
theorem opW_no {y1 y2 : Nat} {as : List pm_V} {r : Int} (h1 : qE L xs (d + 100) y1 ((2, 0) :: as) (qS v) = some (some (0, r), qS v)) (h2 : qE L xs (d + 100) y2 ((2, 63) :: as) (qS v) = some (some (0, r), qS v)) : opW L xs d v y1 y2 as := ⟨r, v, v, h1, fW_r v, h2, fP_r v⟩
theorem Rl_lt {x y : Int} (h : Rl x y) : x < 9999 ↔ y < 1000000 := by
  rcases h with ⟨h1, h2, h3⟩ | ⟨h1, h2⟩
  · constructor <;> intro _ <;> omega
  · constructor <;> intro _ <;> omega
theorem Rl_eq {x y : Int} (h : Rl x y) (hx : x < 9999) : y = x := by
  rcases h with ⟨h1, h2, h3⟩ | ⟨h1, h2⟩
  · exact h3
  · omega
theorem Rl_in {x y : Int} (h : Rl x y) : 0 ≤ x ∧ x ≤ 9999 := by
  rcases h with ⟨h1, h2, h3⟩ | ⟨h1, h2⟩
  · omega
  · omega
theorem lp_mfar {m : Nat → Int} (a w : Int) (hY : 2 * v 64 140 = (P : Int)) (hP : P ≤ 60) (hR : ∀ p, p < P → Rl (m p) (v 75 p)) : ∀ (n j : Nat), j + n = P → qG L xs (d + 1) CX12_far 43 [(2, 63), (0, a), (0, w), (0, foM m 9999 j), (0, foW m 9999 a j), (0, foC m 9998 j), (0, (j : Int))] [] (qS v) = qG L xs (d + 1) CX12_far 118 [(2, 63), (0, a), (0, w), (0, foM m 9999 P), (0, foW m 9999 a P), (0, foC m 9998 P), (0, (P : Int))] [] (qS v)
  | 0, j, hj => by
    rw [b_X12_far_43, c_yardMany, qB_some, psh_some, b_X12_far_50, w32_id (by omega) (by omega), if_neg (by omega), show j = P by omega]
  | n + 1, j, hj => by
    have h3 := lp_mfar a w hY hP hR n (j + 1) (by omega)
    rw [show ((j + 1 : Nat) : Int) = (j : Int) + 1 by omega] at h3
    refine Eq.trans ?_ h3
    have hc := foC_in m 9998 j
    have hj2 := hR j (by omega)
    have hi := Rl_in hj2
    have hl := Rl_lt hj2
    have e1 : foM m 9999 (j + 1) = if m j < 9999 ∧ foM m 9999 j < m j then m j else foM m 9999 j := rfl
    have e2 : foW m 9999 a (j + 1) = if m j < 9999 ∧ foM m 9999 j < m j then (j : Int) else foW m 9999 a j := rfl
    have e3 : foC m 9998 (j + 1) = foC m 9998 j + (if 9998 < m j then 0 else 1) := rfl
    rw [e1, e2, e3, b_X12_far_43, c_yardMany, qB_some, psh_some, b_X12_far_50, w32_id (by omega) (by omega), if_pos (by omega), b_X12_far_54, if_pos (by omega), Int.toNat_natCast, b_X12_far_61]
    by_cases g : m j < 9999
    · have hq := Rl_eq hj2 g
      rw [if_pos (hl.mp g), if_neg (show ¬ 9998 < m j by omega), b_X12_far_66, if_pos (by omega), Int.toNat_natCast, hq, b_X12_far_76, w32_id (by omega) (by omega)]
      by_cases g2 : foM m 9999 j < m j
      · rw [if_pos g2, if_pos ⟨g, g2⟩, if_pos ⟨g, g2⟩, b_X12_far_80, b_X12_far_87, if_pos (by omega), Int.toNat_natCast, hq, b_X12_far_96, if_pos g2, b_X12_far_100, if_pos (by omega), Int.toNat_natCast, hq, b_X12_far_107, b_X12_far_111, b_X12_far_112, w32_id (by omega) (by omega)]
      · rw [if_neg g2, if_neg (fun q => g2 q.2), if_neg (fun q => g2 q.2), b_X12_far_85, b_X12_far_87, if_pos (by omega), Int.toNat_natCast, hq, b_X12_far_96, if_neg g2, b_X12_far_110, b_X12_far_111, b_X12_far_112, w32_id (by omega) (by omega)]
    · rw [if_neg (fun q => g (hl.mpr q)), if_neg (fun q => g q.1), if_neg (fun q => g q.1), if_pos (show 9998 < m j by omega), b_X12_far_112, w32_id (by omega) (by omega), Int.add_zero]
theorem op_far (hz : Wz L xs v c) (a w : Int) : opW L xs d v nX11_far nX12_far [(0, a), (0, w)] := by
  have hz0 := hz
  obtain ⟨hW, hC, hM, hN, h5, h6, h7⟩ := hz
  have hW0 := hW
  obtain ⟨q1, -⟩ := hW0
  have k1 := hC.1.1
  obtain ⟨P, hP⟩ : ∃ P : Nat, 2 * v 11 0 = (P : Int) := ⟨(2 * v 11 0).toNat, by omega⟩
  by_cases g : (0 ≤ a ∧ a < 2 * v 11 0) ∧ 0 ≤ w ∧ w ≤ 2
  · obtain ⟨s, rfl⟩ : ∃ s : Nat, a = (s : Int) := ⟨a.toNat, by omega⟩
    have hs : s < P := by omega
    obtain ⟨v1, v2, S, e1, e2, e3, e4, e5⟩ := c_ways (L := L) (xs := xs) (d := d + 89) hW hM hP hs
    have hz2 := Wz_W e3 hz0
    have hP2 : 2 * v2 11 0 = (P : Int) := by rw [fW_c e3 (c := 11) (by omega)]; exact hP
    have k2 : 2 * v2 64 140 = (P : Int) := by rw [hz2.2.1.1.1]; exact hP2
    obtain ⟨v3, v4, e6, e7, e8, e9⟩ := m_ways (L := L) (xs := xs) (d := d + 7) hz2 hP2 hs
    rw [SG_W e3] at e9
    have hR : ∀ p, p < P → Rl (v2 34 p) (v4 75 p) := fun p hp => Lst_Rl (e5 p hp) (e9 p hp)
    have hin := foW_in (w0 := (s : Int)) (m := v2 34) (P := P) (fun p hp => Or.inl (Rl_in (hR p hp)).1) P (Nat.le_refl P)
    have hs0 : v2 34 s = 0 := by
      rcases e5 s hs with ⟨x1, x2, x3, x4⟩ | ⟨x1, x2⟩
      · have := x4 0 0 (Wk_0 s)
        omega
      · exact absurd (Wk_0 s) (x2 0 0)
    have hmost : 0 ≤ foM (v2 34) 9999 P ∧ 0 ≤ foW (v2 34) 9999 (s : Int) P ∧ foW (v2 34) 9999 (s : Int) P < (P : Int) ∧ v2 34 (foW (v2 34) 9999 (s : Int) P).toNat = foM (v2 34) 9999 P ∧ ∀ w1, foW (v2 34) 9999 w1 P = foW (v2 34) 9999 (s : Int) P := by
      rcases hin with ⟨-, -, x⟩ | x
      · exact absurd (by omega) (x s hs)
      · exact x
    obtain ⟨y1, y2, y3, y4, y5⟩ := hmost
    have h9 := e4.2.2.1
    have l1 := lp_mfar (L := L) (xs := xs) (d := d + 98) (v := v4) (m := v2 34) (P := P) (s : Int) w (by rw [fN_c e8.1 (c := 64) (by omega)]; exact k2) (by omega) hR P 0 (by omega)
    refine ⟨if w = 2 then foC (v2 34) 9998 P else if w = 0 then foM (v2 34) 9999 P else foW (v2 34) 9999 (s : Int) P, v2, v4, ?_, e3, ?_, e8⟩
    · rw [e_X11_far, b_X11_far_0, c_hasPlace (by omega) (by omega), qB_some, psh_some, b_X11_far_8, zb_0, if_pos g.1, b_X11_far_11, if_neg (by omega), b_X11_far_15, if_neg (by omega), b_X11_far_22, e1, qB_some, psh_none, b_X11_far_37, e2, qB_some, psh_none, b_X11_far_46]
      by_cases w2 : w = 2
      · rw [if_pos w2, if_pos w2, b_X11_far_51, c_count 9998 rfl h9 (by omega), qB_some, psh_some, b_X11_far_61]
      · rw [if_neg w2, if_neg w2, b_X11_far_62, c_farthest rfl h9 (by omega), qB_some, psh_some, b_X11_far_69, y5 (-1)]
        by_cases w0 : w = 0
        · obtain ⟨f, hf⟩ : ∃ f : Nat, foW (v2 34) 9999 (s : Int) P = (f : Int) := ⟨(foW (v2 34) 9999 (s : Int) P).toNat, by omega⟩
          rw [hf, Int.toNat_natCast] at y4
          rw [if_pos w0, if_pos w0, b_X11_far_74, hf, c_minutes e4 (by omega), qB_some, psh_some, b_X11_far_82, b_X11_far_86, y4]
        · rw [if_neg w0, if_neg w0, b_X11_far_85, b_X11_far_86]
    · rw [e_X12_far, b_X12_far_0, c_isPlace (by omega) (by omega), qB_some, psh_some, b_X12_far_6, zb_0, if_pos (by omega), b_X12_far_9, c_within, qB_some, psh_some, b_X12_far_18, zb_0, if_pos (by omega), b_X12_far_23, e6, qB_some, psh_none, b_X12_far_27, e7, qB_some, psh_none, b_X12_far_32]
      refine Eq.trans l1 ?_
      rw [b_X12_far_118]
      by_cases w0 : w = 0
      · rw [if_pos w0, if_neg (by omega), if_pos w0, b_X12_far_122, b_X12_far_138]
      · rw [if_neg w0, if_neg w0, b_X12_far_126]
        by_cases w1 : w = 1
        · rw [if_pos w1, if_neg (by omega), b_X12_far_131, b_X12_far_138]
        · rw [if_neg w1, if_pos (by omega), b_X12_far_136, b_X12_far_138]
  · refine opW_no (r := -1) ?_ ?_
    · rw [e_X11_far, b_X11_far_0, c_hasPlace (by omega) (by omega), qB_some, psh_some, b_X11_far_8, zb_0]
      by_cases g1 : 0 ≤ a ∧ a < 2 * v 11 0
      · rw [if_pos g1, b_X11_far_11]
        by_cases g2 : w < 0
        · rw [if_pos g2, b_X11_far_20]
        · rw [if_neg g2, b_X11_far_15, if_pos (by omega), b_X11_far_20]
      · rw [if_neg g1, b_X11_far_20]
    · rw [e_X12_far, b_X12_far_0, c_isPlace (by omega) (by omega), qB_some, psh_some, b_X12_far_6, zb_0, k1]
      by_cases g1 : 0 ≤ a ∧ a < 2 * v 11 0
      · rw [if_pos g1, b_X12_far_9, c_within, qB_some, psh_some, b_X12_far_18, zb_0, if_neg (by omega), b_X12_far_21]
      · rw [if_neg g1, b_X12_far_21]
/-- bits of the yards within reach on a side -/
def bt (m : Nat → Int) (s : Nat) (x : Int) : Nat → Int
  | 0 => 0
  | j + 1 => pm_or (bt m s x j) (if x < m (2 * j + s) then 0 else pm_shl 1 (j : Int))
theorem lp_yards {m : Nat → Int} {s : Nat} (x : Int) (hs : s < 2) (hm : v 34 = m) (h9 : v 29 9 = (P : Int)) (hP : P ≤ 60) {Y : Nat} (hY : 2 * Y = P) : ∀ (n j : Nat), j + n = Y → qG L xs d CX10_yardsWithin 5 [(2, 29), (0, (s : Int)), (0, x), (0, bt m s x j), (0, ((2 * j + s : Nat) : Int))] [] (qS v) = some (some (0, bt m s x Y), qS v)
  | 0, j, hj => by
    rw [b_X10_yardsWithin_5, if_neg (by omega), b_X10_yardsWithin_44, show j = Y by omega]
  | n + 1, j, hj => by
    have h3 := lp_yards x hs hm h9 hP hY n (j + 1) (by omega)
    rw [show ((2 * (j + 1) + s : Nat) : Int) = ((2 * j + s : Nat) : Int) + 2 by omega] at h3
    refine Eq.trans ?_ h3
    have e : bt m s x (j + 1) = pm_or (bt m s x j) (if x < m (2 * j + s) then 0 else pm_shl 1 (j : Int)) := rfl
    have e0 : w32 (Int.tdiv ((2 * j + s : Nat) : Int) 2) = (j : Int) := by
      rw [half_p _ (by omega)]
      omega
    rw [e, b_X10_yardsWithin_5, if_pos (by omega), b_X10_yardsWithin_14, if_pos (by omega), Int.toNat_natCast, hm, b_X10_yardsWithin_22]
    by_cases g : x < m (2 * j + s)
    · rw [if_pos g, if_pos g, b_X10_yardsWithin_35, b_X10_yardsWithin_36, w32_id (by omega) (by omega)]
    · rw [if_neg g, if_neg g, b_X10_yardsWithin_26, e0, b_X10_yardsWithin_36, w32_id (by omega) (by omega)]
theorem lp_mreach {m : Nat → Int} {s : Nat} (a w x : Int) (hs : s < 2) (hw1 : w32 (Int.tdiv w 1000) = (s : Int)) (hw2 : Int.tmod w 1000 = x) (hx : 0 ≤ x ∧ x ≤ 999) {Y : Nat} (hY : v 64 140 = (Y : Int)) (hY2 : Y ≤ 30) (hR : ∀ p, p < 2 * Y → Rl (m p) (v 75 p)) : ∀ (n j : Nat), j + n = Y → qG L xs (d + 1) CX12_reach 38 [(2, 63), (0, a), (0, w), (0, bt m s x j), (0, (j : Int))] [] (qS v) = some (some (0, bt m s x Y), qS v)
  | 0, j, hj => by
    rw [b_X12_reach_38, c_yardMany, qB_some, psh_some, b_X12_reach_44, if_neg (by omega), b_X12_reach_87, show j = Y by omega]
  | n + 1, j, hj => by
    have h3 := lp_mreach a w x hs hw1 hw2 hx hY hY2 hR n (j + 1) (by omega)
    rw [show ((j + 1 : Nat) : Int) = (j : Int) + 1 by omega] at h3
    refine Eq.trans ?_ h3
    have hj2 := hR (2 * j + s) (by omega)
    have e : bt m s x (j + 1) = pm_or (bt m s x j) (if x < m (2 * j + s) then 0 else pm_shl 1 (j : Int)) := rfl
    have hx2 : x < m (2 * j + s) ↔ x < v 75 (2 * j + s) := by
      rcases hj2 with ⟨h1, h2, h3⟩ | ⟨h1, h2⟩
      · rw [h3]
      · constructor <;> intro _ <;> omega
    rw [e, b_X12_reach_38, c_yardMany, qB_some, psh_some, b_X12_reach_44, if_pos (by omega), b_X12_reach_47, hw1, w32_id (z := 2 * (j : Int)) (by omega) (by omega), w32_id (by omega) (by omega), if_pos (by omega), show (2 * (j : Int) + (s : Int)).toNat = 2 * j + s by omega, b_X12_reach_63, hw2]
    by_cases g : x < m (2 * j + s)
    · rw [if_pos (hx2.mp g), if_pos g, b_X12_reach_78, b_X12_reach_79, w32_id (by omega) (by omega)]
    · rw [if_neg (fun q => g (hx2.mpr q)), if_neg g, b_X12_reach_71, b_X12_reach_79, w32_id (by omega) (by omega)]
theorem op_reach (hz : Wz L xs v c) (a w : Int) (hw : w < 2147483648) : opW L xs d v nX11_reach nX12_reach [(0, a), (0, w)] := by
  have hz0 := hz
  obtain ⟨hW, hC, hM, hN, h5, h6, h7⟩ := hz
  have hW0 := hW
  obtain ⟨q1, -⟩ := hW0
  have k1 := hC.1.1
  obtain ⟨P, hP⟩ : ∃ P : Nat, 2 * v 11 0 = (P : Int) := ⟨(2 * v 11 0).toNat, by omega⟩
  obtain ⟨Y, hY⟩ : ∃ Y : Nat, v 11 0 = (Y : Int) := ⟨(v 11 0).toNat, by omega⟩
  by_cases g : (0 ≤ a ∧ a < 2 * v 11 0) ∧ 0 ≤ w ∧ w / 1000 ≤ 1
  · obtain ⟨s, rfl⟩ : ∃ s : Nat, a = (s : Int) := ⟨a.toNat, by omega⟩
    have hs : s < P := by omega
    obtain ⟨t, ht⟩ : ∃ t : Nat, w / 1000 = (t : Int) := ⟨(w / 1000).toNat, by omega⟩
    have hw1 : w32 (Int.tdiv w 1000) = (t : Int) := by
      rw [td_pos 1000 (by omega), w32_id (by omega) (by omega), ht]
    have hw2 : Int.tmod w 1000 = w % 1000 := tm_pos 1000 (by omega)
    obtain ⟨v1, v2, S, e1, e2, e3, e4, e5⟩ := c_ways (L := L) (xs := xs) (d := d + 89) hW hM hP hs
    have hz2 := Wz_W e3 hz0
    have hP2 : 2 * v2 11 0 = (P : Int) := by rw [fW_c e3 (c := 11) (by omega)]; exact hP
    have k2 : 2 * v2 64 140 = (P : Int) := by rw [hz2.2.1.1.1]; exact hP2
    obtain ⟨v3, v4, e6, e7, e8, e9⟩ := m_ways (L := L) (xs := xs) (d := d + 7) hz2 hP2 hs
    rw [SG_W e3] at e9
    have hR : ∀ p, p < P → Rl (v2 34 p) (v4 75 p) := fun p hp => Lst_Rl (e5 p hp) (e9 p hp)
    have h9 := e4.2.2.1
    have l1 := lp_yards (L := L) (xs := xs) (d := d + 98) (v := v2) (m := v2 34) (s := t) (P := P) (Y := Y) (w % 1000) (by omega) rfl h9 (by omega) (by omega) Y 0 (by omega)
    have k4 : v4 64 140 = (Y : Int) := by
      rw [fN_c e8.1 (c := 64) (by omega)]
      omega
    have l2 := lp_mreach (L := L) (xs := xs) (d := d + 98) (v := v4) (m := v2 34) (s := t) (Y := Y) (s : Int) w (w % 1000) (by omega) hw1 hw2 (by omega) k4 (by omega) (fun p hp => hR p (by omega)) Y 0 (by omega)
    refine ⟨bt (v2 34) t (w % 1000) Y, v2, v4, ?_, e3, ?_, e8⟩
    · rw [e_X11_reach, b_X11_reach_0, c_hasPlace (by omega) (by omega), qB_some, psh_some, b_X11_reach_8, zb_0, if_pos g.1, b_X11_reach_11, if_neg (by omega), b_X11_reach_15, hw1, if_neg (by omega), b_X11_reach_26, e1, qB_some, psh_none, b_X11_reach_41, e2, qB_some, psh_none, b_X11_reach_50, hw1, hw2, e_X10_yardsWithin, b_X10_yardsWithin_0]
      have l1' : qG L xs (d + 98) CX10_yardsWithin 5 [(2, 29), (0, (t : Int)), (0, w % 1000), (0, 0), (0, (t : Int))] [] (qS v2) = some (some (0, bt (v2 34) t (w % 1000) Y), qS v2) := by
        rw [show 2 * 0 + t = t by omega] at l1
        exact l1
      rw [l1', qB_some, psh_some, b_X11_reach_67]
    · rw [e_X12_reach, b_X12_reach_0, c_isPlace (by omega) (by omega), qB_some, psh_some, b_X12_reach_6, zb_0, if_pos (by omega), b_X12_reach_9, if_neg (by omega), b_X12_reach_13, hw1, if_neg (by omega), b_X12_reach_24, e6, qB_some, psh_none, b_X12_reach_28, e7, qB_some, psh_none, b_X12_reach_33]
      exact l2
  · have hd : ¬ w < 0 → w32 (Int.tdiv w 1000) = w / 1000 := fun h => by
      rw [td_pos 1000 (by omega), w32_id (by omega) (by omega)]
    refine opW_no (r := -1) ?_ ?_
    · rw [e_X11_reach, b_X11_reach_0, c_hasPlace (by omega) (by omega), qB_some, psh_some, b_X11_reach_8, zb_0]
      by_cases g1 : 0 ≤ a ∧ a < 2 * v 11 0
      · rw [if_pos g1, b_X11_reach_11]
        by_cases g2 : w < 0
        · rw [if_pos g2, b_X11_reach_24]
        · rw [if_neg g2, b_X11_reach_15, hd g2, if_pos (by omega), b_X11_reach_24]
      · rw [if_neg g1, b_X11_reach_24]
    · rw [e_X12_reach, b_X12_reach_0, c_isPlace (by omega) (by omega), qB_some, psh_some, b_X12_reach_6, zb_0, k1]
      by_cases g1 : 0 ≤ a ∧ a < 2 * v 11 0
      · rw [if_pos g1, b_X12_reach_9]
        by_cases g2 : w < 0
        · rw [if_pos g2, b_X12_reach_22]
        · rw [if_neg g2, b_X12_reach_13, hd g2, if_pos (by omega), b_X12_reach_22]
      · rw [if_neg g1, b_X12_reach_22]
end FB
end
section
/-! WAY: its minutes, and its first step -/
section WY
variable {L : Nat} {xs : Nat → Int} {d : Nat} {v : Nat → Nat → Int} {c : Nat → Nat → Nat → Int} {P : Nat}
theorem Wk_app {E : Nat → Nat → Int → Prop} {n s p : Nat} {w : Int} (h : Wk E n s p w) : ∀ {n' q : Nat} {w' : Int}, Wk E n' p q w' → Wk E (n + n') s q (w + w')
  | 0, q, w', h' => by
    obtain ⟨f, c, h1, h2, h3, h4, h5⟩ := h'
    rw [← h3, ← h4, h1, h2, Int.add_zero]
    exact h
  | n' + 1, q, w', h' => by
    obtain ⟨r, k, h1, he⟩ := Wk_init h'
    have := Wk_snoc (Wk_app h h1) he
    rw [show w + (w' - k) + k = w + w' by omega] at this
    exact this
theorem Wk_cons {E : Nat → Nat → Int → Prop} {n a p q : Nat} {k w : Int} (he : E a p k) (h : Wk E n p q w) : Wk E (0 + 1 + n) a q (k + w) := by
  have := Wk_app (Wk_snoc (Wk_0 a) he) h
  rw [show 0 + k + w = k + w by omega] at this
  exact this
/-- r is the first with Q below P, or -2 -/
def Fst (P : Nat) (Q : Nat → Prop) (r : Int) : Prop := (∃ p : Nat, p < P ∧ Q p ∧ (∀ q, q < p → ¬ Q q) ∧ r = (p : Int)) ∨ ((∀ p, p < P → ¬ Q p) ∧ r = -2)
theorem Fst_one {Q Q' : Nat → Prop} {r r' : Int} (h : Fst P Q r) (h' : Fst P Q' r') (hQ : ∀ p, p < P → (Q p ↔ Q' p)) : r' = r := by
  rcases h with ⟨p, h1, h2, h3, h4⟩ | ⟨h1, h2⟩
  · rcases h' with ⟨p', g1, g2, g3, g4⟩ | ⟨g1, g2⟩
    · by_cases a : p < p'
      · exact absurd ((hQ p h1).mp h2) (g3 p a)
      · by_cases b : p' < p
        · exact absurd ((hQ p' g1).mpr g2) (h3 p' b)
        · omega
    · exact absurd ((hQ p h1).mp h2) (g1 p h1)
  · rcases h' with ⟨p', g1, g2, g3, g4⟩ | ⟨g1, g2⟩
    · exact absurd ((hQ p' g1).mpr g2) (h1 p' g1)
    · omega
/-- a laid step that a way from a place may begin with -/
def fsH (v : Nat → Nat → Int) (a t : Nat) : Prop := v 30 t = (a : Int) ∧ v 34 (v 31 t).toNat + v 32 t = v 34 a
def fsI (v : Nat → Nat → Int) (P a i : Nat) (x : Int) : Prop := (x = (P : Int) ∧ ∀ t, t < i → ¬ fsH v a t) ∨ (x < (P : Int) ∧ (∃ t, t < i ∧ fsH v a t ∧ v 31 t = x) ∧ ∀ t, t < i → fsH v a t → x ≤ v 31 t)
theorem lp_first {S a : Nat} (h : WOK v S P) (ha : a < P) (hm : ∀ p, p < P → 0 ≤ v 34 p ∧ v 34 p ≤ 9999) : ∀ (n i : Nat) (x : Int), i + n = S → fsI v P a i x → ∃ x', qG L xs (d + 1) CX10_firstStep 7 [(2, 29), (0, (a : Int)), (0, x), (0, (i : Int))] [] (qS v) = qG L xs (d + 1) CX10_firstStep 69 [(2, 29), (0, (a : Int)), (0, x'), (0, (S : Int))] [] (qS v) ∧ fsI v P a S x'
  | 0, i, x, hi, hI => by
    have hS := h.1
    have e : i = S := by omega
    subst e
    refine ⟨x, ?_, hI⟩
    rw [b_X10_firstStep_7, if_neg (by omega)]
  | n + 1, i, x, hi, hI => by
    obtain ⟨hS, hS2, hP, hP2, h5⟩ := h
    have h0 : WOK v S P := ⟨hS, hS2, hP, hP2, h5⟩
    obtain ⟨g1, g2, g3, g4⟩ := h5 i (by omega)
    have m1 := hm (v 31 i).toNat (by omega)
    have skip : ¬ fsH v a i → fsI v P a (i + 1) x := fun hn => by
      rcases hI with ⟨k1, k2⟩ | ⟨k0, ⟨t, k1, k2, k3⟩, k4⟩
      · exact Or.inl ⟨k1, fun t ht => by
          by_cases e : t = i
          · rw [e]; exact hn
          · exact k2 t (by omega)⟩
      · exact Or.inr ⟨k0, ⟨t, by omega, k2, k3⟩, fun t ht hf => by
          by_cases e : t = i
          · rw [e] at hf; exact absurd hf hn
          · exact k4 t (by omega) hf⟩
    by_cases q : v 30 i = (a : Int)
    · have a1 : qG L xs (d + 1) CX10_firstStep 7 [(2, 29), (0, (a : Int)), (0, x), (0, (i : Int))] [] (qS v) = qG L xs (d + 1) CX10_firstStep 49 [(2, 29), (0, (a : Int)), (0, x), (0, (i : Int))] [(0, v 34 a), (0, v 34 (v 31 i).toNat + v 32 i)] (qS v) := by
        rw [b_X10_firstStep_7, if_pos (by omega), b_X10_firstStep_15, if_pos (by omega), Int.toNat_natCast, b_X10_firstStep_21, if_pos q, b_X10_firstStep_25, if_pos (by omega), Int.toNat_natCast, b_X10_firstStep_35, if_pos (by omega), b_X10_firstStep_36, if_pos (by omega), Int.toNat_natCast, b_X10_firstStep_42, if_pos (by omega), Int.toNat_natCast, w32_id (by omega) (by omega)]
      by_cases q2 : v 34 (v 31 i).toNat + v 32 i = v 34 a
      · have hI2 : fsI v P a (i + 1) (pm_min x (v 31 i)) := by
          refine Or.inr ?_
          unfold pm_min
          rcases hI with ⟨k1, k2⟩ | ⟨k0, ⟨t, k1, k2, k3⟩, k4⟩
          · rw [if_pos (by omega)]
            refine ⟨by omega, ⟨i, by omega, ⟨q, q2⟩, rfl⟩, fun t ht hf => ?_⟩
            by_cases e : t = i
            · rw [e]; exact Int.le_refl _
            · exact absurd hf (k2 t (by omega))
          · by_cases e0 : v 31 i < x
            · rw [if_pos e0]
              refine ⟨by omega, ⟨i, by omega, ⟨q, q2⟩, rfl⟩, fun t ht hf => ?_⟩
              by_cases e : t = i
              · rw [e]; exact Int.le_refl _
              · have := k4 t (by omega) hf
                omega
            · rw [if_neg e0]
              refine ⟨k0, ⟨t, by omega, k2, k3⟩, fun t ht hf => ?_⟩
              by_cases e : t = i
              · rw [e]; omega
              · exact k4 t (by omega) hf
        obtain ⟨x', e1, e2⟩ := lp_first h0 ha hm n (i + 1) _ (by omega) hI2
        refine ⟨x', ?_, e2⟩
        rw [show ((i + 1 : Nat) : Int) = (i : Int) + 1 by omega] at e1
        refine Eq.trans ?_ e1
        rw [a1, b_X10_firstStep_49, if_pos q2, b_X10_firstStep_52, if_pos (by omega), Int.toNat_natCast, b_X10_firstStep_59, b_X10_firstStep_63, w32_id (by omega) (by omega)]
      · obtain ⟨x', e1, e2⟩ := lp_first h0 ha hm n (i + 1) x (by omega) (skip (fun w => q2 w.2))
        refine ⟨x', ?_, e2⟩
        rw [show ((i + 1 : Nat) : Int) = (i : Int) + 1 by omega] at e1
        refine Eq.trans ?_ e1
        rw [a1, b_X10_firstStep_49, if_neg q2, b_X10_firstStep_63, w32_id (by omega) (by omega)]
    · obtain ⟨x', e1, e2⟩ := lp_first h0 ha hm n (i + 1) x (by omega) (skip (fun w => q w.1))
      refine ⟨x', ?_, e2⟩
      rw [show ((i + 1 : Nat) : Int) = (i : Int) + 1 by omega] at e1
      refine Eq.trans ?_ e1
      rw [b_X10_firstStep_7, if_pos (by omega), b_X10_firstStep_15, if_pos (by omega), Int.toNat_natCast, b_X10_firstStep_21, if_neg q, b_X10_firstStep_63, w32_id (by omega) (by omega)]
theorem c_firstStep {S a : Nat} (h : WOK v S P) (ha : a < P) (hm : ∀ p, p < P → 0 ≤ v 34 p ∧ v 34 p ≤ 9999) : ∃ r, qE L xs (d + 2) nX10_firstStep [(2, 29), (0, (a : Int))] (qS v) = some (some (0, r), qS v) ∧ Fst P (fun p => ∃ k, EC v S (-1) a p k ∧ v 34 p + k = v 34 a) r := by
  have h9 := h.2.2.1
  obtain ⟨x, e1, e2⟩ := lp_first (L := L) (xs := xs) (d := d) h ha hm S 0 (P : Int) (by omega) (Or.inl ⟨rfl, fun t ht => absurd ht (by omega)⟩)
  have hfs : ∀ p k, EC v S (-1) a p k → v 34 p + k = v 34 a → ∃ t, t < S ∧ fsH v a t ∧ v 31 t = (p : Int) := fun p k he hk => by
    obtain ⟨t, ht, w1, w2, w3, w4⟩ := he
    exact ⟨t, ht, ⟨w1, by rw [w2, w3, Int.toNat_natCast]; exact hk⟩, w2⟩
  have base : qE L xs (d + 2) nX10_firstStep [(2, 29), (0, (a : Int))] (qS v) = qG L xs (d + 1) CX10_firstStep 69 [(2, 29), (0, (a : Int)), (0, x), (0, (S : Int))] [] (qS v) := by
    rw [e_X10_firstStep, b_X10_firstStep_0, h9]
    exact e1
  rcases e2 with ⟨k1, k2⟩ | ⟨k0, ⟨t, k1, k2, k3⟩, k4⟩
  · refine ⟨-2, ?_, Or.inr ⟨fun p hp hq => ?_, rfl⟩⟩
    · rw [base, b_X10_firstStep_69, c_isThere h, qB_some, psh_some, b_X10_firstStep_74, zb_0, if_neg (by omega), b_X10_firstStep_81, b_X10_firstStep_83]
    · obtain ⟨k, g1, g2⟩ := hq
      obtain ⟨t, w1, w2, w3⟩ := hfs p k g1 g2
      exact k2 t w1 w2
  · obtain ⟨g1, g2, g3, g4⟩ := h.2.2.2.2 t k1
    refine ⟨x, ?_, Or.inl ⟨x.toNat, by omega, ?_, fun q hq hQ => ?_, by omega⟩⟩
    · rw [base, b_X10_firstStep_69, c_isThere h, qB_some, psh_some, b_X10_firstStep_74, zb_0, if_pos (by omega), b_X10_firstStep_77, b_X10_firstStep_83]
    · obtain ⟨j1, j2⟩ := k2
      refine ⟨v 32 t, ⟨t, k1, j1, by omega, rfl, Or.inl rfl⟩, ?_⟩
      rw [← k3]
      exact j2
    · obtain ⟨k, j1, j2⟩ := hQ
      obtain ⟨t', w1, w2, w3⟩ := hfs q k j1 j2
      have := k4 t' w1 w2
      omega
/-- .. and the reference's own -/
def msQ (T : Nat → Nat → Int → Prop) (g : Nat → Int) (b : Nat) (x : Int) (p : Nat) : Prop := g p < 1000000 ∧ ∃ y, 0 ≤ y ∧ Lst T p b (-2) y ∧ g p + y = x
theorem lp_mway {T : Nat → Nat → Int → Prop} {g : Nat → Int} {a b : Nat} (q w : Int) {x : Int} (hP : P ≤ 60) (hT : Okg T P 99) (ha : a < P) (hb : b < P) (hg : ∀ p, p < P → 1 ≤ g p ∧ g p ≤ 1000000) : ∀ (n j : Nat) (v : Nat → Nat → Int) (u7 u8 : pm_V), j + n = P → 2 * v 64 140 = (P : Int) → MH v T → (∀ p, p < P → v 74 (60 * a + p) = g p) → (∀ p, p < j → ¬ msQ T g b x p) → ∃ v' r, qG L xs (d + 4) CX12_way 67 [(2, 63), (0, q), (0, w), (0, (a : Int)), (0, (b : Int)), (0, x), (0, (j : Int)), u7, u8] [] (qS v) = some (some (0, r), qS v') ∧ (∀ c, c ≠ 75 → c ≠ 76 → v' c = v c) ∧ Fst P (msQ T g b x) r
  | 0, j, v, u7, u8, hj, hY, hM, h74, hn => by
    refine ⟨v, -2, ?_, fun _ _ _ => rfl, Or.inr ⟨fun p hp => hn p (by omega), rfl⟩⟩
    rw [b_X12_way_67, c_yardMany, qB_some, psh_some, b_X12_way_74, w32_id (by omega) (by omega), if_neg (by omega), b_X12_way_133]
  | n + 1, j, v, u7, u8, hj, hY, hM, h74, hn => by
    have hgj := hg j (by omega)
    have a1 : qG L xs (d + 4) CX12_way 67 [(2, 63), (0, q), (0, w), (0, (a : Int)), (0, (b : Int)), (0, x), (0, (j : Int)), u7, u8] [] (qS v) = qG L xs (d + 4) CX12_way 90 [(2, 63), (0, q), (0, w), (0, (a : Int)), (0, (b : Int)), (0, x), (0, (j : Int)), u7, u8] [(0, g j)] (qS v) := by
      have e : w32 (w32 (60 * (a : Int)) + (j : Int)) = ((60 * a + j : Nat) : Int) := by
        rw [w32_id (z := 60 * (a : Int)) (by omega) (by omega), w32_id (by omega) (by omega)]
        omega
      rw [b_X12_way_67, c_yardMany, qB_some, psh_some, b_X12_way_74, w32_id (by omega) (by omega), if_pos (by omega), b_X12_way_78, e, if_pos (by omega), Int.toNat_natCast, h74 j (by omega)]
    by_cases k1 : g j < 1000000
    · obtain ⟨v1, y, e1, e2, e3⟩ := m_wayFrom (L := L) (xs := xs) (d := d + 1) (s := j) (p := b) hP hY hT hM (by omega) hb
      have h74' : ∀ p, p < P → v1 74 (60 * a + p) = g p := fun p hp => by rw [e2 74 (by decide) (by decide)]; exact h74 p hp
      by_cases k2 : 0 ≤ y ∧ g j + y = x
      · refine ⟨v1, (j : Int), ?_, e2, Or.inl ⟨j, by omega, ⟨k1, y, k2.1, e3, k2.2⟩, hn, rfl⟩⟩
        have hyb : y ≤ 5841 := by
          rcases e3 with ⟨-, z, -, -⟩ | ⟨z, -⟩
          · exact z
          · omega
        rw [a1, b_X12_way_90, if_pos k1, b_X12_way_99, e1, qB_some, psh_some, b_X12_way_107, if_neg (by omega), b_X12_way_114, w32_id (by omega) (by omega), if_pos k2.2, b_X12_way_124]
      · have hn2 : ∀ p, p < j + 1 → ¬ msQ T g b x p := fun p hp hq => by
          by_cases e : p = j
          · subst e
            obtain ⟨-, z, z1, z2, z3⟩ := hq
            rcases Lst_one z2 e3 with ⟨t1, t2, t3, -⟩ | ⟨t1, -⟩
            · exact k2 ⟨by omega, by omega⟩
            · omega
          · exact hn p (by omega) hq
        have step : ∃ w8, qG L xs (d + 4) CX12_way 67 [(2, 63), (0, q), (0, w), (0, (a : Int)), (0, (b : Int)), (0, x), (0, (j : Int)), u7, u8] [] (qS v) = qG L xs (d + 4) CX12_way 67 [(2, 63), (0, q), (0, w), (0, (a : Int)), (0, (b : Int)), (0, x), (0, ((j + 1 : Nat) : Int)), (0, g j), w8] [] (qS v1) := by
          refine ⟨(0, y), ?_⟩
          rw [a1, b_X12_way_90, if_pos k1, b_X12_way_99, e1, qB_some, psh_some, b_X12_way_107]
          by_cases k3 : y < 0
          · rw [if_pos k3, b_X12_way_127, w32_id (by omega) (by omega)]
            rfl
          · have hyb : y ≤ 5841 := by
              rcases e3 with ⟨-, z, -, -⟩ | ⟨z, -⟩
              · exact z
              · omega
            rw [if_neg k3, b_X12_way_114, w32_id (by omega) (by omega), if_neg (by omega), b_X12_way_127, w32_id (by omega) (by omega)]
            rfl
        obtain ⟨w8, e4⟩ := step
        obtain ⟨v2, r, e5, e6, e7⟩ := lp_mway q w hP hT ha hb hg n (j + 1) v1 (0, g j) w8 (by omega) (by rw [e2 64 (by decide) (by decide)]; exact hY) (MH_cg (e2 74 (by decide) (by decide)) hM) h74' hn2
        exact ⟨v2, r, e4.trans e5, fun c h1 h2 => (e6 c h1 h2).trans (e2 c h1 h2), e7⟩
    · obtain ⟨v2, r, e5, e6, e7⟩ := lp_mway q w hP hT ha hb hg n (j + 1) v (0, g j) u8 (by omega) hY hM h74 (fun p hp hq => by
        by_cases e : p = j
        · subst e
          exact k1 hq.1
        · exact hn p (by omega) hq)
      refine ⟨v2, r, ?_, e6, e7⟩
      refine Eq.trans ?_ e5
      rw [a1, b_X12_way_90, if_neg k1, b_X12_way_127, w32_id (by omega) (by omega)]
      rfl
end WY
end
section
/-! WAY: both answer, and alike -/
section WZ
variable {L : Nat} {xs : Nat → Int} {d : Nat} {v : Nat → Nat → Int} {c : Nat → Nat → Nat → Int} {P : Nat}
/-- class's ways back -/
theorem c_ways_back (hW : WW v) (hM : LM L xs v c) (hP : 2 * v 11 0 = (P : Int)) {s : Nat} (hs : s < P) : ∃ v1 v2 S, qE L xs (d + 10) nX10_lay [(2, 29), (2, 1), (2, 23)] (qS v) = some (none, qS v1) ∧ qE L xs (d + 10) nX10_spreadBack [(2, 29), (0, (s : Int))] (qS v1) = some (none, qS v2) ∧ fW v v2 ∧ WOK v2 S P ∧ EC v2 S (-1) = SG v c (-1) (-1) (-1) ∧ ∀ p, p < P → Lst (SG v c (-1) (-1) (-1)) p s 9999 (v2 34 p) := by
  obtain ⟨v1, S, e1, e2, e3⟩ := c_lay (L := L) (xs := xs) (d := d) hW hP hM
  obtain ⟨v2, e4, e5, e6⟩ := c_back (L := L) (xs := xs) (d := d + 7) e3.1 (EC_all hW e3) hs
  exact ⟨v1, v2, S, e1, e4, fW_t e2 (fW_own (fun c hc => e5 c (by omega))), WOK_cg e5 e3.1, by rw [EC_cg e5]; exact EC_all hW e3, e6⟩
theorem op_way (hz : Wz L xs v c) (y w : Int) (hy : y < 2147483648) : opW L xs d v nX11_way nX12_way [(0, y), (0, w)] := by
  have hz0 := hz
  obtain ⟨hW, hC, hM, hN, h5, h6, h7⟩ := hz
  have hW0 := hW
  obtain ⟨q1, -⟩ := hW0
  have k1 := hC.1.1
  obtain ⟨P, hP⟩ : ∃ P : Nat, 2 * v 11 0 = (P : Int) := ⟨(2 * v 11 0).toNat, by omega⟩
  by_cases g : (0 ≤ y ∧ y / 100 < 2 * v 11 0 ∧ y % 100 < 2 * v 11 0) ∧ 0 ≤ w ∧ w ≤ 1
  · obtain ⟨a, ha⟩ : ∃ a : Nat, y / 100 = (a : Int) := ⟨(y / 100).toNat, by omega⟩
    obtain ⟨b, hb⟩ : ∃ b : Nat, y % 100 = (b : Int) := ⟨(y % 100).toNat, by omega⟩
    have y1 : w32 (Int.tdiv y 100) = (a : Int) := by rw [td_pos 100 (by omega), w32_id (by omega) (by omega), ha]
    have y2 : Int.tmod y 100 = (b : Int) := by rw [tm_pos 100 (by omega), hb]
    have haP : a < P := by omega
    have hbP : b < P := by omega
    obtain ⟨v1, v2, S, e1, e2, e3, e4, eE, e5⟩ := c_ways_back (L := L) (xs := xs) (d := d + 89) hW hM hP hbP
    have hz2 := Wz_W e3 hz0
    obtain ⟨hW2, hC2, hM2, hN2, h52, h62, h72⟩ := hz2
    have hP2 : 2 * v2 11 0 = (P : Int) := by rw [fW_c e3 (c := 11) (by omega)]; exact hP
    have k2 : 2 * v2 64 140 = (P : Int) := by rw [hC2.1.1]; exact hP2
    have hT : Okg (SG v c (-1) (-1) (-1)) P 99 := SG_ok hW hM.1 hP (by omega)
    obtain ⟨v3, f1, f2, f3⟩ := m_asks (L := L) (xs := xs) (d := d + 7) hW2 hC2 hN2 h52 h62 h72 (by omega)
    rw [SG_W e3] at f3
    have k3 : 2 * v3 64 140 = (P : Int) := by rw [fN_c (fA_N f2) (c := 64) (by omega)]; exact k2
    obtain ⟨v4, r4, f4, f5, f6⟩ := m_wayFrom (L := L) (xs := xs) (d := d + 96) (s := a) (p := b) (by omega) k3 hT f3 haP hbP
    have fP4 : fP v2 v4 := fP_t (fA_P f2) (fP_75 f5)
    have hab := Lst_one (e5 a haP) f6
    have base1 : qE L xs (d + 100) nX11_way [(2, 0), (0, y), (0, w)] (qS v) = (if v2 34 a < 9999 then qG L xs (d + 99) CX11_way 71 [(2, 0), (0, y), (0, w), (0, (a : Int)), (0, (b : Int))] [] (qS v2) else some (some (0, -2), qS v2)) := by
      rw [e_X11_way, b_X11_way_0, c_arePlaces (by omega) (by omega) y hy, qB_some, psh_some, b_X11_way_5, zb_0, if_pos g.1, b_X11_way_8, if_neg (by omega), b_X11_way_12, if_neg (by omega), b_X11_way_19, e1, qB_some, psh_none, y1, y2, b_X11_way_45, e2, qB_some, psh_none, b_X11_way_54, c_minutes e4 haP, qB_some, psh_some, b_X11_way_62]
      by_cases z : v2 34 a < 9999
      · rw [if_pos z, if_pos z]
      · rw [if_neg z, if_neg z, b_X11_way_68]
    have base2 : qE L xs (d + 100) nX12_way [(2, 63), (0, y), (0, w)] (qS v2) = qG L xs (d + 99) CX12_way 42 [(2, 63), (0, y), (0, w), (0, (a : Int)), (0, (b : Int)), (9, 0), (9, 0), (9, 0), (9, 0)] [(0, r4)] (qS v4) := by
      rw [e_X12_way, b_X12_way_0, m_isAb (by omega) (by omega) y hy, qB_some, psh_some, b_X12_way_5, zb_0, if_pos (by omega), b_X12_way_8, c_within, qB_some, psh_some, b_X12_way_15, zb_0, if_pos (by omega), b_X12_way_20, f1, qB_some, psh_none, y1, y2, b_X12_way_35, f4, qB_some, psh_some]
    rcases hab with ⟨z1, z2, z3, z4⟩ | ⟨z1, z2, z3⟩
    · by_cases w0 : w = 0
      · refine ⟨v2 34 a, v2, v4, ?_, e3, ?_, fP4⟩
        · rw [base1, if_pos (by omega), b_X11_way_71, if_pos w0, b_X11_way_75, c_minutes e4 haP, qB_some, psh_some, b_X11_way_83]
        · rw [base2, b_X12_way_42, if_pos w0, b_X12_way_53, z3]
      · by_cases hab : a = b
        · refine ⟨(b : Int), v2, v4, ?_, e3, ?_, fP4⟩
          · rw [base1, if_pos (by omega), b_X11_way_71, if_neg w0, b_X11_way_84, if_pos (by omega), b_X11_way_90, b_X11_way_103]
          · rw [base2, b_X12_way_42, if_neg w0, b_X12_way_48, if_neg (by omega), b_X12_way_56, if_pos (by omega), b_X12_way_62, hab]
        · have hm9 : ∀ p, p < P → 0 ≤ v2 34 p ∧ v2 34 p ≤ 9999 := fun p hp => by
            rcases e5 p hp with ⟨x1, x2, -, -⟩ | ⟨x1, -⟩
            · omega
            · omega
          obtain ⟨r, g1, g2⟩ := c_firstStep (L := L) (xs := xs) (d := d + 97) e4 haP hm9
          rw [eE] at g2
          have M3 : MH v4 (SG v c (-1) (-1) (-1)) := MH_cg (f5 74 (by decide) (by decide)) f3
          have hg : ∀ p, p < P → 1 ≤ v4 74 (60 * a + p) ∧ v4 74 (60 * a + p) ≤ 1000000 := fun p hp => by
            have := (MH_MOK (N := P) (by omega) M3).2 a p haP hp
            omega
          obtain ⟨v5, r5, j1, j2, j3⟩ := lp_mway (L := L) (xs := xs) (d := d + 95) (P := P) (T := SG v c (-1) (-1) (-1)) (g := fun p => v4 74 (60 * a + p)) (a := a) (b := b) y w (x := v2 34 a) (by omega) hT haP hbP hg P 0 v4 (9, 0) (9, 0) (by omega) (by rw [fN_c fP4.1 (c := 64) (by omega)]; exact k2) M3 (fun _ _ => rfl) (fun p hp => absurd hp (by omega))
          have hrr : r5 = r := Fst_one g2 j3 (fun p hp => by
            constructor
            · rintro ⟨k, t1, t2⟩
              have k99 := hT a p k t1
              have t3 := M3.2.1 a p k t1
              have t3' : v4 74 (60 * a + p) < 1000000 := by omega
              have t4 : SG v c (-1) (-1) (-1) a p (v4 74 (60 * a + p)) := by
                rcases M3.1 a p (by omega) (by omega) with s1 | s1
                · omega
                · exact s1
              rcases e5 p hp with ⟨x1, x2, ⟨n1, x3⟩, x4⟩ | ⟨x1, -⟩
              · have t5 : v2 34 a ≤ v4 74 (60 * a + p) + v2 34 p := by
                  rcases e5 a haP with ⟨-, -, -, s4⟩ | ⟨s1, -⟩
                  · exact s4 _ _ (Wk_cons t4 x3)
                  · omega
                exact ⟨t3', v2 34 p, x1, Or.inl ⟨x1, x2, ⟨n1, x3⟩, x4⟩, by show v4 74 (60 * a + p) + v2 34 p = v2 34 a; omega⟩
              · omega
            · rintro ⟨t1, x, t2, t3, t4⟩
              dsimp only at t1 t4
              have t5 : SG v c (-1) (-1) (-1) a p (v4 74 (60 * a + p)) := by
                rcases M3.1 a p (by omega) (by omega) with s1 | s1
                · omega
                · exact s1
              refine ⟨_, t5, ?_⟩
              rcases Lst_one (e5 p hp) t3 with ⟨s1, s2, s3, -⟩ | ⟨-, s2, -⟩
              · omega
              · omega)
          refine ⟨r, v2, v5, ?_, e3, ?_, fP_t fP4 (fP_75 j2)⟩
          · rw [base1, if_pos (by omega), b_X11_way_71, if_neg w0, b_X11_way_84, if_neg (by omega), b_X11_way_95, g1, qB_some, psh_some, b_X11_way_103]
          · rw [base2, b_X12_way_42, if_neg w0, b_X12_way_48, if_neg (by omega), b_X12_way_56, if_neg (by omega), b_X12_way_64, z3]
            rw [hrr] at j1
            exact j1
    · refine ⟨-2, v2, v4, ?_, e3, ?_, fP4⟩
      · rw [base1, if_neg (by omega)]
      · rw [base2, b_X12_way_42, z2]
        by_cases w0 : w = 0
        · rw [if_pos w0, b_X12_way_53]
        · rw [if_neg w0, b_X12_way_48, if_pos (by omega), b_X12_way_53]
  · refine opW_no (r := -1) ?_ ?_
    · rw [e_X11_way, b_X11_way_0, c_arePlaces (by omega) (by omega) y hy, qB_some, psh_some, b_X11_way_5, zb_0]
      by_cases g1 : 0 ≤ y ∧ y / 100 < 2 * v 11 0 ∧ y % 100 < 2 * v 11 0
      · rw [if_pos g1, b_X11_way_8]
        by_cases g2 : w < 0
        · rw [if_pos g2, b_X11_way_17]
        · rw [if_neg g2, b_X11_way_12, if_pos (by omega), b_X11_way_17]
      · rw [if_neg g1, b_X11_way_17]
    · rw [e_X12_way, b_X12_way_0, m_isAb (by omega) (by omega) y hy, qB_some, psh_some, b_X12_way_5, zb_0, k1]
      by_cases g1 : 0 ≤ y ∧ y / 100 < 2 * v 11 0 ∧ y % 100 < 2 * v 11 0
      · rw [if_pos g1, b_X12_way_8, c_within, qB_some, psh_some, b_X12_way_15, zb_0, if_neg (by omega), b_X12_way_18]
      · rw [if_neg g1, b_X12_way_18]
end WZ
end
section
/-! WIDEST, GO: both answer, and alike -/
section WI
variable {L : Nat} {xs : Nat → Int} {d : Nat} {v : Nat → Nat → Int} {c : Nat → Nat → Nat → Int} {P : Nat}
theorem lp_all {S : Nat} {T : Nat → Nat → Int → Prop} : ∀ (n j : Nat) (v : Nat → Nat → Int), j + n = P → WOK v S P → EC v S (-1) = T → (∀ s p, s < j → p < P → Lst T s p 9999 (v 35 (60 * s + p))) → ∃ v', qG L xs (d + 3) CX10_spreadFromAll 2 [(2, 29), (0, (j : Int))] [] (qS v) = some (none, qS v') ∧ (∀ c, c ≠ 34 → c ≠ 35 → v' c = v c) ∧ ∀ s p, s < P → p < P → Lst T s p 9999 (v' 35 (60 * s + p))
  | 0, j, v, hj, h, hE, hA => by
    have h9 := h.2.2.1
    refine ⟨v, ?_, fun _ _ _ => rfl, fun s p hs hp => hA s p (by omega) hp⟩
    rw [b_X10_spreadFromAll_2, if_neg (by omega), b_X10_spreadFromAll_40]
  | n + 1, j, v, hj, h, hE, hA => by
    have h9 := h.2.2.1
    have hP2 := h.2.2.2.1
    obtain ⟨v1, e1, e2, e3⟩ := c_from (L := L) (xs := xs) (d := d) h hE (s := j) (by omega)
    have hu : ∀ c, c ≠ 34 → c ≠ 35 → pm_cpy v1 34 35 0 (60 * j) 60 c = v c := fun c h1 h2 => by
      funext i
      exact (if_neg (fun q => h2 q.1)).trans (by rw [e2 c h1])
    have h0 : WOK (pm_cpy v1 34 35 0 (60 * j) 60) S P := by
      unfold WOK
      rw [hu 29 (by decide) (by decide), hu 30 (by decide) (by decide), hu 31 (by decide) (by decide), hu 32 (by decide) (by decide)]
      exact h
    have hE0 : EC (pm_cpy v1 34 35 0 (60 * j) 60) S (-1) = T := by
      rw [← hE]
      unfold EC
      rw [hu 30 (by decide) (by decide), hu 31 (by decide) (by decide), hu 32 (by decide) (by decide), hu 33 (by decide) (by decide)]
    obtain ⟨v2, e4, e5, e6⟩ := lp_all n (j + 1) (pm_cpy v1 34 35 0 (60 * j) 60) (by omega) h0 hE0 (fun s p hs hp => by
      by_cases hsj : s = j
      · subst hsj
        have : pm_cpy v1 34 35 0 (60 * s) 60 35 (60 * s + p) = v1 34 p := by
          refine (if_pos (by omega)).trans ?_
          rw [show 0 + (60 * s + p - 60 * s) = p by omega]
        rw [this]
        exact e3 p hp
      · have : pm_cpy v1 34 35 0 (60 * j) 60 35 (60 * s + p) = v 35 (60 * s + p) := by
          refine (if_neg (by omega)).trans ?_
          rw [e2 35 (by decide)]
        rw [this]
        exact hA s p (by omega) hp)
    refine ⟨v2, ?_, fun c h1 h2 => (e5 c h1 h2).trans (hu c h1 h2), e6⟩
    refine Eq.trans ?_ e4
    rw [b_X10_spreadFromAll_2, if_pos (by omega), b_X10_spreadFromAll_10, e1, qB_some, psh_none, b_X10_spreadFromAll_16, w32_id (by omega) (by omega)]
    refine (qG_cpy (s := 34) (t := 35) (e := 0) (ns := 60) (nt := 3600) rfl rfl rfl rfl (Or.inl rfl) (by omega) (by omega) (by omega) (by omega) (by omega) rfl (nr_of rfl) (nr_of rfl)).trans ?_
    rw [show ((j : Int) * 60).toNat = 60 * j by omega]
    show qG L xs (d + 3) CX10_spreadFromAll 34 _ _ (qS (pm_cpy v1 34 35 0 (60 * j) 60)) = _
    rw [b_X10_spreadFromAll_34, w32_id (by omega) (by omega)]
    rfl
theorem c_all {S : Nat} {T : Nat → Nat → Int → Prop} (h : WOK v S P) (hE : EC v S (-1) = T) : ∃ v', qE L xs (d + 4) nX10_spreadFromAll [(2, 29)] (qS v) = some (none, qS v') ∧ (∀ c, c ≠ 34 → c ≠ 35 → v' c = v c) ∧ ∀ s p, s < P → p < P → Lst T s p 9999 (v' 35 (60 * s + p)) := by
  obtain ⟨v', e1, e2, e3⟩ := lp_all (L := L) (xs := xs) (d := d) P 0 v (by omega) h hE (fun s p hs => absurd hs (by omega))
  refine ⟨v', ?_, e2, e3⟩
  rw [e_X10_spreadFromAll, b_X10_spreadFromAll_0]
  exact e1
/-- the greatest of a row, of all -/
def mxF (m : Nat → Int) (w : Int) : Nat → Int
  | 0 => w
  | j + 1 => pm_max (mxF m w j) (m j)
def mxA (A : Nat → Nat → Int) (P : Nat) : Nat → Int
  | 0 => 0
  | i + 1 => mxF (A i) (mxA A P i) P
theorem lp_wrow {m : Nat → Int} {i : Nat} (w : Int) (hi : i < P) (hm : ∀ p, p < P → v 35 (60 * i + p) = m p) (h9 : v 29 9 = (P : Int)) (hP : P ≤ 60) : ∀ (n j : Nat), j + n = P → qG L xs d CX10_widestOfAll 14 [(2, 29), (0, mxF m w j), (0, (i : Int)), (0, (j : Int))] [] (qS v) = qG L xs d CX10_widestOfAll 44 [(2, 29), (0, mxF m w P), (0, (i : Int)), (0, (P : Int))] [] (qS v)
  | 0, j, hj => by
    rw [b_X10_widestOfAll_14, if_neg (by omega), show j = P by omega]
  | n + 1, j, hj => by
    have h3 := lp_wrow w hi hm h9 hP n (j + 1) (by omega)
    rw [show ((j + 1 : Nat) : Int) = (j : Int) + 1 by omega] at h3
    refine Eq.trans ?_ h3
    have e : w32 (w32 ((i : Int) * 60) + (j : Int)) = ((60 * i + j : Nat) : Int) := by
      rw [w32_id (z := (i : Int) * 60) (by omega) (by omega), w32_id (by omega) (by omega)]
      omega
    rw [b_X10_widestOfAll_14, if_pos (by omega), b_X10_widestOfAll_22, e, if_pos (by omega), Int.toNat_natCast, hm j (by omega), b_X10_widestOfAll_34, w32_id (by omega) (by omega)]
    rfl
theorem lp_wall {A : Nat → Nat → Int} (hA : ∀ s p, s < P → p < P → v 35 (60 * s + p) = A s p) (h9 : v 29 9 = (P : Int)) (hP : P ≤ 60) : ∀ (n i : Nat) (u3 : pm_V), i + n = P → qG L xs d CX10_widestOfAll 4 [(2, 29), (0, mxA A P i), (0, (i : Int)), u3] [] (qS v) = some (some (0, mxA A P P), qS v)
  | 0, i, u3, hi => by
    rw [b_X10_widestOfAll_4, if_neg (by omega), b_X10_widestOfAll_50, show i = P by omega]
  | n + 1, i, u3, hi => by
    have h3 := lp_wall hA h9 hP n (i + 1) (0, (P : Int)) (by omega)
    rw [show ((i + 1 : Nat) : Int) = (i : Int) + 1 by omega] at h3
    refine Eq.trans ?_ h3
    have l := lp_wrow (L := L) (xs := xs) (d := d) (v := v) (P := P) (m := A i) (i := i) (mxA A P i) (by omega) (fun p hp => hA i p (by omega) hp) h9 hP P 0 (by omega)
    rw [b_X10_widestOfAll_4, if_pos (by omega), b_X10_widestOfAll_12]
    refine Eq.trans l ?_
    rw [b_X10_widestOfAll_44, w32_id (by omega) (by omega)]
    rfl
theorem c_widestOfAll {A : Nat → Nat → Int} (hA : ∀ s p, s < P → p < P → v 35 (60 * s + p) = A s p) (h9 : v 29 9 = (P : Int)) (hP : P ≤ 60) : qE L xs (d + 1) nX10_widestOfAll [(2, 29)] (qS v) = some (some (0, mxA A P P), qS v) := by
  rw [e_X10_widestOfAll, b_X10_widestOfAll_0]
  exact lp_wall hA h9 hP P 0 (9, 0) (by omega)
theorem Rl_max {x y x' y' : Int} (h : Rl x y) (h' : Rl x' y') : Rl (pm_max x x') (pm_max y y') := by
  unfold pm_max
  rcases h with ⟨h1, h2, h3⟩ | ⟨h1, h2⟩
  · rcases h' with ⟨g1, g2, g3⟩ | ⟨g1, g2⟩
    · by_cases a : x < x'
      · rw [if_pos a, if_pos (by omega)]; exact Or.inl ⟨g1, g2, g3⟩
      · rw [if_neg a, if_neg (by omega)]; exact Or.inl ⟨h1, h2, h3⟩
    · rw [if_pos (by omega), if_pos (by omega)]; exact Or.inr ⟨g1, g2⟩
  · rcases h' with ⟨g1, g2, g3⟩ | ⟨g1, g2⟩
    · rw [if_neg (by omega), if_neg (by omega)]; exact Or.inr ⟨h1, h2⟩
    · rw [if_neg (by omega), if_neg (by omega)]; exact Or.inr ⟨h1, h2⟩
theorem lp_mrow {m : Nat → Int} {z : Int} (i : Nat) (hY : 2 * v 64 140 = (P : Int)) (hP : P ≤ 60) (hR : ∀ p, p < P → Rl (m p) (v 75 p)) : ∀ (n j : Nat) (w : Int), j + n = P → Rl (mxF m z j) w → ∃ w', qG L xs (d + 1) CX12_widestNow 25 [(2, 63), (0, w), (0, (i : Int)), (0, (j : Int))] [] (qS v) = qG L xs (d + 1) CX12_widestNow 62 [(2, 63), (0, w'), (0, (i : Int)), (0, (P : Int))] [] (qS v) ∧ Rl (mxF m z P) w'
  | 0, j, w, hj, hw => by
    have e : j = P := by omega
    subst e
    refine ⟨w, ?_, hw⟩
    rw [b_X12_widestNow_25, c_yardMany, qB_some, psh_some, b_X12_widestNow_31, w32_id (by omega) (by omega), if_neg (by omega)]
  | n + 1, j, w, hj, hw => by
    obtain ⟨w', e1, e2⟩ := lp_mrow i hY hP hR n (j + 1) (pm_max w (v 75 j)) (by omega) (Rl_max hw (hR j (by omega)))
    refine ⟨w', ?_, e2⟩
    rw [show ((j + 1 : Nat) : Int) = (j : Int) + 1 by omega] at e1
    refine Eq.trans ?_ e1
    rw [b_X12_widestNow_25, c_yardMany, qB_some, psh_some, b_X12_widestNow_31, w32_id (by omega) (by omega), if_pos (by omega), b_X12_widestNow_35, if_pos (by omega), Int.toNat_natCast, b_X12_widestNow_41]
    unfold pm_max
    by_cases g : w < v 75 j
    · rw [if_pos g, if_pos g, b_X12_widestNow_45, if_pos (by omega), Int.toNat_natCast, b_X12_widestNow_51, b_X12_widestNow_55, w32_id (by omega) (by omega)]
    · rw [if_neg g, if_neg g, b_X12_widestNow_54, b_X12_widestNow_55, w32_id (by omega) (by omega)]
theorem lp_mall {T : Nat → Nat → Int → Prop} {A : Nat → Nat → Int} (hP : P ≤ 60) (hT : Okg T P 99) (hA : ∀ s p, s < P → p < P → Lst T s p 9999 (A s p)) : ∀ (n i : Nat) (v : Nat → Nat → Int) (w : Int) (u3 : pm_V), i + n = P → 2 * v 64 140 = (P : Int) → MH v T → Rl (mxA A P i) w → ∃ v' r, qG L xs (d + 2) CX12_widestNow 8 [(2, 63), (0, w), (0, (i : Int)), u3] [] (qS v) = some (some (0, r), qS v') ∧ (∀ c, c ≠ 75 → c ≠ 76 → v' c = v c) ∧ Rl (mxA A P P) r
  | 0, i, v, w, u3, hi, hY, hM, hw => by
    have e : i = P := by omega
    subst e
    refine ⟨v, w, ?_, fun _ _ _ => rfl, hw⟩
    rw [b_X12_widestNow_8, c_yardMany, qB_some, psh_some, b_X12_widestNow_14, w32_id (by omega) (by omega), if_neg (by omega), b_X12_widestNow_68]
  | n + 1, i, v, w, u3, hi, hY, hM, hw => by
    obtain ⟨v1, e1, e2, e3⟩ := m_from (L := L) (xs := xs) (d := d) (s := i) hP hY hT hM (by omega)
    have hY1 : 2 * v1 64 140 = (P : Int) := by rw [e2 64 (by decide) (by decide)]; exact hY
    obtain ⟨w1, e4, e5⟩ := lp_mrow (L := L) (xs := xs) (d := d + 1) (v := v1) (m := A i) (z := mxA A P i) i hY1 hP (fun p hp => Lst_Rl (hA i p (by omega) hp) (e3 p hp)) P 0 w (by omega) hw
    obtain ⟨v2, r, e6, e7, e8⟩ := lp_mall hP hT hA n (i + 1) v1 w1 (0, (P : Int)) (by omega) hY1 (MH_cg (e2 74 (by decide) (by decide)) hM) e5
    refine ⟨v2, r, ?_, fun c h1 h2 => (e7 c h1 h2).trans (e2 c h1 h2), e8⟩
    refine Eq.trans ?_ e6
    rw [b_X12_widestNow_8, c_yardMany, qB_some, psh_some, b_X12_widestNow_14, w32_id (by omega) (by omega), if_pos (by omega), b_X12_widestNow_18, e1, qB_some, psh_none, b_X12_widestNow_23]
    refine Eq.trans e4 ?_
    rw [b_X12_widestNow_62, w32_id (by omega) (by omega)]
    rfl
/-- the reference's greatest way, a hole more as told -/
theorem m_widestNow {A : Nat → Nat → Int} {al : Int} (hW : WW v) (hC : CW v) (hN : LN L xs v c) (hal : v 63 22 = al) (h6 : v 63 23 = -1) (h7 : v 63 24 = -1) (ha : al < v 11 0) (hP : 2 * v 11 0 = (P : Int)) (hA : ∀ s p, s < P → p < P → Lst (SG v c al (-1) (-1)) s p 9999 (A s p)) : ∃ v' r, qE L xs (d + 93) nX12_widestNow [(2, 63)] (qS v) = some (some (0, r), qS v') ∧ fP v v' ∧ Rl (mxA A P P) r := by
  have hW0 := hW
  obtain ⟨q1, -⟩ := hW0
  obtain ⟨v1, e1, e2, e3⟩ := m_asks (L := L) (xs := xs) (d := d) hW hC hN hal h6 h7 ha
  have hT := SG_ok (al := al) (sh := -1) (sl := -1) hW hN.1 hP ha
  obtain ⟨v2, r, e4, e5, e6⟩ := lp_mall (L := L) (xs := xs) (d := d + 90) (P := P) (by omega) hT hA P 0 v1 0 (9, 0) (by omega) (by rw [fN_c (fA_N e2) (c := 64) (by omega), hC.1.1]; exact hP) e3 (Or.inl ⟨Int.le_refl 0, show (0 : Int) ≤ 5841 by decide, rfl⟩)
  refine ⟨v2, r, ?_, fP_t (fA_P e2) (fP_75 e5), e6⟩
  rw [e_X12_widestNow, b_X12_widestNow_0, e1, qB_some, psh_none, b_X12_widestNow_4]
  exact e4
theorem op_widest (hz : Wz L xs v c) : opW L xs d v nX11_widest nX12_widest [] := by
  have hz0 := hz
  obtain ⟨hW, hC, hM, hN, h5, h6, h7⟩ := hz
  have hW0 := hW
  obtain ⟨q1, -⟩ := hW0
  obtain ⟨P, hP⟩ : ∃ P : Nat, 2 * v 11 0 = (P : Int) := ⟨(2 * v 11 0).toNat, by omega⟩
  obtain ⟨v1, S, e1, e2, e3⟩ := c_lay (L := L) (xs := xs) (d := d + 89) hW hP hM
  obtain ⟨v2, e4, e5, e6⟩ := c_all (L := L) (xs := xs) (d := d + 95) e3.1 (EC_all hW e3)
  have f2 : fW v v2 := fW_t e2 (fW_own (fun c hc => e5 c (by omega) (by omega)))
  obtain ⟨hW2, hC2, hM2, hN2, h52, h62, h72⟩ := Wz_W f2 hz0
  have hP2 : 2 * v2 11 0 = (P : Int) := by rw [fW_c f2 (c := 11) (by omega)]; exact hP
  have h9 : v2 29 9 = (P : Int) := by rw [e5 29 (by decide) (by decide)]; exact e3.1.2.2.1
  have w1 := c_widestOfAll (L := L) (xs := xs) (d := d + 98) (v := v2) (P := P) (A := fun s p => v2 35 (60 * s + p)) (fun _ _ _ _ => rfl) h9 (by omega)
  obtain ⟨v3, r, e7, e8, e9⟩ := m_widestNow (L := L) (xs := xs) (d := d + 6) (P := P) (A := fun s p => v2 35 (60 * s + p)) hW2 hC2 hN2 h52 h62 h72 (by omega) hP2 (by rw [SG_W f2]; exact e6)
  refine ⟨if mxA (fun s p => v2 35 (60 * s + p)) P P < 9999 then mxA (fun s p => v2 35 (60 * s + p)) P P else -2, v2, v3, ?_, f2, ?_, e8⟩
  · rw [e_X11_widest, b_X11_widest_0, e1, qB_some, psh_none, b_X11_widest_15, e4, qB_some, psh_none, b_X11_widest_22, w1, qB_some, psh_some, b_X11_widest_29]
    by_cases g : mxA (fun s p => v2 35 (60 * s + p)) P P < 9999
    · rw [if_pos g, if_pos g, b_X11_widest_42, b_X11_widest_43]
    · rw [if_neg g, if_neg g, b_X11_widest_37, b_X11_widest_43]
  · rw [e_X12_widest, b_X12_widest_0, e7, qB_some, psh_some, b_X12_widest_4]
    by_cases g : mxA (fun s p => v2 35 (60 * s + p)) P P < 9999
    · rw [if_pos g, if_pos ((Rl_lt e9).mp g), b_X12_widest_11, b_X12_widest_17, Rl_eq e9 g]
    · rw [if_neg g, if_neg (fun q => g ((Rl_lt e9).mpr q)), b_X12_widest_15, b_X12_widest_17]
def goC (u : Nat → Nat → Int) (a r : Int) : Nat → Nat → Int := pm_up (pm_up (pm_up u 47 0 a) 47 1 (w32 (u 47 1 + r))) 47 2 (w32 (u 47 2 + 1))
def goM (u : Nat → Nat → Int) (a r : Int) : Nat → Nat → Int := pm_up (pm_up (pm_up u 63 32 a) 63 33 (w32 (u 63 33 + r))) 63 34 (w32 (u 63 34 + 1))
theorem op_go (hz : Wz L xs v c) (hd : v 63 32 = v 47 0) (a : Int) : ∃ r v1 v2, qE L xs (d + 100) nX11_go [(2, 0), (0, a)] (qS v) = some (some (0, r), qS v1) ∧ qE L xs (d + 100) nX12_go [(2, 63), (0, a)] (qS v1) = some (some (0, r), qS v2) ∧ ((fW v v1 ∧ fP v1 v2) ∨ ∃ u1 u2, fW v u1 ∧ v1 = goC u1 a r ∧ fP v1 u2 ∧ v2 = goM u2 a r ∧ 0 ≤ a ∧ a < 2 * v 11 0 ∧ 0 ≤ r ∧ r ≤ 5841) := by
  have hz0 := hz
  obtain ⟨hW, hC, hM, hN, h5, h6, h7⟩ := hz
  have hW0 := hW
  obtain ⟨q1, -⟩ := hW0
  have k1 := hC.1.1
  obtain ⟨P, hP⟩ : ∃ P : Nat, 2 * v 11 0 = (P : Int) := ⟨(2 * v 11 0).toNat, by omega⟩
  by_cases g : 0 ≤ a ∧ a < 2 * v 11 0
  · by_cases g0 : 0 ≤ v 47 0 ∧ v 47 0 < 2 * v 11 0
    · obtain ⟨p, rfl⟩ : ∃ p : Nat, a = (p : Int) := ⟨a.toNat, by omega⟩
      obtain ⟨s, hs⟩ : ∃ s : Nat, v 47 0 = (s : Int) := ⟨(v 47 0).toNat, by omega⟩
      have hsP : s < P := by omega
      have hpP : p < P := by omega
      obtain ⟨v1, S, e1, l2, l3⟩ := c_lay (L := L) (xs := xs) (d := d + 89) hW hP hM
      obtain ⟨v2, e2, l5, e5⟩ := c_from (L := L) (xs := xs) (d := d + 96) l3.1 (EC_all hW l3) hsP
      have e3 : fW v v2 := fW_t l2 (fW_own (fun c hc => l5 c (by omega)))
      have e4 : WOK v2 S P := WOK_cg l5 l3.1
      have hlay : fW v v2 := e3
      have base1 : qE L xs (d + 100) nX11_go [(2, 0), (0, (p : Int))] (qS v) = (if v2 34 p < 9999 then some (some (0, v2 34 p), qS (goC v2 p (v2 34 p))) else some (some (0, -2), qS v2)) := by
        have hv : v1 47 0 = (s : Int) := by rw [fW_c l2 (c := 47) (by omega)]; exact hs
        rw [e_X11_go, b_X11_go_0, c_hasPlace (by omega) (by omega), qB_some, psh_some, b_X11_go_8, zb_0, if_pos g, b_X11_go_13, c_hasPlace (by omega) (by omega), qB_some, psh_some, b_X11_go_27, zb_0, if_pos g0, b_X11_go_33, e1, qB_some, psh_none, b_X11_go_48, hv, e2, qB_some, psh_none, b_X11_go_63, c_minutes e4 hpP, qB_some, psh_some, b_X11_go_71]
        by_cases z : v2 34 p < 9999
        · rw [if_pos z, if_pos z, b_X11_go_82, b_X11_go_90, b_X11_go_103, b_X11_go_116, up_ne (a := 47) (i := 1) (by omega), up_ne (a := 47) (i := 2) (by omega), up_ne (a := 47) (i := 2) (by omega)]
          rfl
        · rw [if_neg z, if_neg z, b_X11_go_79]
      have core : ∀ w1 : Nat → Nat → Int, fW v w1 ∨ w1 = goC v2 p (v2 34 p) → ∃ u2, qE L xs (d + 100) nX12_go [(2, 63), (0, (p : Int))] (qS w1) = (if v2 34 p < 9999 then some (some (0, v2 34 p), qS (goM u2 p (v2 34 p))) else some (some (0, -2), qS u2)) ∧ fP w1 u2 := by
        intro w1 hw1
        have cells : ∀ c, c < 23 ∨ c = 63 ∨ (63 < c ∧ c < 73) ∨ 76 < c → w1 c = v c := fun c hc => by
          rcases hw1 with h | h
          · exact fW_c h (by omega)
          · rw [h]
            unfold goC
            rw [up_cell (by omega), up_cell (by omega), up_cell (by omega)]
            exact fW_c hlay (by omega)
        have hWw : WW w1 := by
          have : WW w1 = WW v := by
            unfold WW
            rw [cells 1 (by omega), cells 7 (by omega), cells 9 (by omega), cells 10 (by omega), cells 11 (by omega)]
          rw [this]; exact hW
        have hCw : CW w1 := by
          have : CW w1 = CW v := by
            unfold CW
            rw [cells 64 (by omega), cells 68 (by omega), cells 69 (by omega), cells 70 (by omega), cells 1 (by omega), cells 6 (by omega), cells 7 (by omega), cells 8 (by omega), cells 9 (by omega), cells 10 (by omega), cells 11 (by omega), cells 15 (by omega), cells 16 (by omega), cells 17 (by omega), cells 63 (by omega)]
          rw [this]; exact hC
        have hSw : SG w1 = SG v := by
          funext c al sh sl a b k
          unfold SG sRo sHo sLa
          rw [cells 1 (by omega), cells 6 (by omega), cells 7 (by omega), cells 8 (by omega), cells 9 (by omega), cells 10 (by omega), cells 11 (by omega), cells 15 (by omega), cells 16 (by omega), cells 17 (by omega)]
        have hNw : LN L xs w1 c := LN_g hN ⟨fun c hc => cells c (by omega), fun k _ => by rw [cells 63 (by omega)]⟩
        have hPw : 2 * w1 11 0 = (P : Int) := by rw [cells 11 (by omega)]; exact hP
        have k2 := hCw.1.1
        have d2 : w1 63 32 = (s : Int) := by rw [cells 63 (by omega)]; omega
        obtain ⟨v3, f1, f2, f3⟩ := m_asks (L := L) (xs := xs) (d := d + 7) (al := -1) (sh := -1) (sl := -1) hWw hCw hNw (by rw [cells 63 (by omega)]; exact h5) (by rw [cells 63 (by omega)]; exact h6) (by rw [cells 63 (by omega)]; exact h7) (by omega)
        rw [hSw] at f3
        have hT : Okg (SG v c (-1) (-1) (-1)) P 99 := SG_ok hW hM.1 hP (by omega)
        have k3 : 2 * v3 64 140 = (P : Int) := by rw [fN_c (fA_N f2) (c := 64) (by omega)]; omega
        obtain ⟨v4, r4, f4, f5, f6⟩ := m_wayFrom (L := L) (xs := xs) (d := d + 96) (s := s) (p := p) (by omega) k3 hT f3 hsP hpP
        have d3 : v3 63 32 = (s : Int) := by rw [f2.2 32 (by omega)]; exact d2
        refine ⟨v4, ?_, fP_t (fA_P f2) (fP_75 f5)⟩
        rw [e_X12_go, b_X12_go_0, c_isPlace (by omega) (by omega), qB_some, psh_some, b_X12_go_6, zb_0, if_pos (by omega), b_X12_go_11, c_isPlace (by omega) (by omega), qB_some, psh_some, b_X12_go_20, zb_0, if_pos (by omega), b_X12_go_26, f1, qB_some, psh_none, b_X12_go_30, d3, f4, qB_some, psh_some, b_X12_go_39]
        rcases Lst_one (e5 p hpP) f6 with ⟨x1, x2, x3, -⟩ | ⟨x1, x2, -⟩
        · rw [if_neg (by omega), if_pos (by omega), b_X12_go_47, b_X12_go_52, b_X12_go_62, b_X12_go_72, up_ne (a := 63) (i := 33) (by omega), up_ne (a := 63) (i := 34) (by omega), up_ne (a := 63) (i := 34) (by omega), x3]
          rfl
        · rw [if_pos (by omega), if_neg (by omega), b_X12_go_44]
      by_cases z : v2 34 p < 9999
      · obtain ⟨u2, g1, g2⟩ := core (goC v2 p (v2 34 p)) (Or.inr rfl)
        have zb : 0 ≤ v2 34 p ∧ v2 34 p ≤ 5841 := by
          rcases e5 p hpP with ⟨x1, x2, -⟩ | ⟨x1, -⟩
          · exact ⟨x1, x2⟩
          · omega
        refine ⟨v2 34 p, goC v2 p (v2 34 p), goM u2 p (v2 34 p), ?_, ?_, Or.inr ⟨v2, u2, e3, rfl, g2, rfl, by omega, by omega, zb.1, zb.2⟩⟩
        · rw [base1, if_pos z]
        · rw [g1, if_pos z]
      · obtain ⟨u2, g1, g2⟩ := core v2 (Or.inl e3)
        refine ⟨-2, v2, u2, ?_, ?_, Or.inl ⟨e3, g2⟩⟩
        · rw [base1, if_neg z]
        · rw [g1, if_neg z]
    · refine ⟨-2, v, v, ?_, ?_, Or.inl ⟨fW_r v, fP_r v⟩⟩
      · rw [e_X11_go, b_X11_go_0, c_hasPlace (by omega) (by omega), qB_some, psh_some, b_X11_go_8, zb_0, if_pos g, b_X11_go_13, c_hasPlace (by omega) (by omega), qB_some, psh_some, b_X11_go_27, zb_0, if_neg g0, b_X11_go_30]
      · rw [e_X12_go, b_X12_go_0, c_isPlace (by omega) (by omega), qB_some, psh_some, b_X12_go_6, zb_0, if_pos (by omega), b_X12_go_11, c_isPlace (by omega) (by omega), qB_some, psh_some, b_X12_go_20, zb_0, if_neg (by omega), b_X12_go_23]
  · refine ⟨-1, v, v, ?_, ?_, Or.inl ⟨fW_r v, fP_r v⟩⟩
    · rw [e_X11_go, b_X11_go_0, c_hasPlace (by omega) (by omega), qB_some, psh_some, b_X11_go_8, zb_0, if_neg g, b_X11_go_11]
    · rw [e_X12_go, b_X12_go_0, c_isPlace (by omega) (by omega), qB_some, psh_some, b_X12_go_6, zb_0, if_neg (by omega), b_X12_go_9]
end WI
end
section
/-! SPARE: both answer, and alike -/
section SR
variable {L : Nat} {xs : Nat → Int} {d : Nat} {v : Nat → Nat → Int} {c : Nat → Nat → Nat → Int} {P : Nat}
/-- which one, and what the way is without it -/
def spF (o D : Nat → Int) : Nat → Int × Int
  | 0 => (-2, -2)
  | k + 1 => if o k = 1 ∧ (spF o D k).2 < D k then ((k : Int), D k) else spF o D k
/-- open, of holes (t = 1) or lanes (t = 0) -/
def opn (v : Nat → Nat → Int) (t : Int) (k : Nat) : Int := if t = 0 then zb (v 8 k = 1 ∧ (0 ≤ v 16 k ∧ v 16 k < 2 * v 11 0) ∧ 0 ≤ v 17 k ∧ v 17 k < 2 * v 11 0) else zb (v 6 k = 1 ∧ 0 ≤ v 15 k ∧ v 15 k < v 11 0)
theorem opn_01 (v : Nat → Nat → Int) (t : Int) (k : Nat) : opn v t k = 0 ∨ opn v t k = 1 := by
  unfold opn
  split
  · exact zb_01 _
  · exact zb_01 _
/-- the steps without the k-th -/
def spT (v : Nat → Nat → Int) (c : Nat → Nat → Nat → Int) (t : Int) (k : Nat) : Nat → Nat → Int → Prop := SG v c (-1) (if t = 0 then -1 else (k : Int)) (if t = 0 then (k : Int) else -1)
theorem lp_spare {v0 : Nat → Nat → Int} {S a b H : Nat} {t y : Int} {D : Nat → Int} (w : Int) (ht : t = 0 ∨ t = 1) (y1 : w32 (Int.tdiv y 100) = (a : Int)) (y2 : Int.tmod y 100 = (b : Int)) (ha : a < P) (hb : b < P) (hW : WW v) (hM : LM L xs v c) (hv0 : fW v v0) (hL : LyI v0 S P (TT v c)) (hH : (if t = 0 then v 1 2 else v 1 1) = (H : Int)) (hH2 : H ≤ 12) (hD : ∀ k, k < H → Lst (spT v c t k) a b 9999 (D k)) : ∀ (n k : Nat) (u : Nat → Nat → Int) (u8 : pm_V), k + n = H → (∀ c, c ≠ 34 → u c = v0 c) → ∃ u' w8, qG L xs (d + 5) CX11_spare 79 [(2, 0), (0, y), (0, w), (0, t), (0, (H : Int)), (0, (spF (opn v t) D k).1), (0, (spF (opn v t) D k).2), (0, (k : Int)), u8] [] (qS u) = qG L xs (d + 5) CX11_spare 176 [(2, 0), (0, y), (0, w), (0, t), (0, (H : Int)), (0, (spF (opn v t) D H).1), (0, (spF (opn v t) D H).2), (0, (H : Int)), w8] [] (qS u') ∧ ∀ c, c ≠ 34 → u' c = v0 c
  | 0, k, u, u8, hk, hu => by
    have e : k = H := by omega
    subst e
    refine ⟨u, u8, ?_, hu⟩
    rw [b_X11_spare_79, if_neg (by omega)]
  | n + 1, k, u, u8, hk, hu => by
    have fu : fW v u := fW_t hv0 (fW_own (fun c hc => hu c (by omega)))
    have hWu : WW u := by rw [WW_W fu]; exact hW
    have hLu : LyI u S P (TT v c) := LyI_cg (fun c _ _ => hu c (by omega)) hL
    have a1 : qG L xs (d + 5) CX11_spare 79 [(2, 0), (0, y), (0, w), (0, t), (0, (H : Int)), (0, (spF (opn v t) D k).1), (0, (spF (opn v t) D k).2), (0, (k : Int)), u8] [] (qS u) = (if opn v t k = 0 then qG L xs (d + 5) CX11_spare 170 [(2, 0), (0, y), (0, w), (0, t), (0, (H : Int)), (0, (spF (opn v t) D k).1), (0, (spF (opn v t) D k).2), (0, (k : Int)), u8] [] (qS u) else qG L xs (d + 5) CX11_spare 117 [(2, 0), (0, y), (0, w), (0, t), (0, (H : Int)), (0, (spF (opn v t) D k).1), (0, (spF (opn v t) D k).2), (0, (k : Int)), u8] [] (qS u)) := by
      rw [b_X11_spare_79, if_pos (by omega), b_X11_spare_86]
      by_cases h0 : t = 0
      · rw [if_pos h0] at hH
        have e : opn v t k = zb (u 8 k = 1 ∧ (0 ≤ u 16 k ∧ u 16 k < 2 * u 11 0) ∧ 0 ≤ u 17 k ∧ u 17 k < 2 * u 11 0) := by
          rw [fW_c fu (c := 8) (by omega), fW_c fu (c := 16) (by omega), fW_c fu (c := 17) (by omega), fW_c fu (c := 11) (by omega)]
          exact if_pos h0
        rw [if_pos h0, b_X11_spare_105, c_isLaneOpen hWu k (by rw [fW_c fu (c := 1) (by omega)]; omega), qB_some, psh_some, b_X11_spare_114, e]
      · rw [if_neg h0] at hH
        have e : opn v t k = zb (u 6 k = 1 ∧ 0 ≤ u 15 k ∧ u 15 k < u 11 0) := by
          rw [fW_c fu (c := 6) (by omega), fW_c fu (c := 15) (by omega), fW_c fu (c := 11) (by omega)]
          exact if_neg h0
        rw [if_neg h0, b_X11_spare_90, c_isHoleOpen hWu k (by rw [fW_c fu (c := 1) (by omega)]; omega), qB_some, psh_some, b_X11_spare_99, e, b_X11_spare_102]
    by_cases g : opn v t k = 0
    · obtain ⟨u', w8, e1, e2⟩ := lp_spare w ht y1 y2 ha hb hW hM hv0 hL hH hH2 hD n (k + 1) u u8 (by omega) hu
      refine ⟨u', w8, ?_, e2⟩
      have e : spF (opn v t) D (k + 1) = spF (opn v t) D k := if_neg (by omega)
      rw [e, show ((k + 1 : Nat) : Int) = (k : Int) + 1 by omega] at e1
      refine Eq.trans ?_ e1
      rw [a1, if_pos g, b_X11_spare_170, w32_id (by omega) (by omega)]
    · have g1 : opn v t k = 1 := by
        rcases opn_01 v t k with q | q
        · exact absurd q g
        · exact q
      have hx : ∃ x : Int, -1 ≤ x ∧ EC u S x = spT v c t k ∧ qG L xs (d + 5) CX11_spare 117 [(2, 0), (0, y), (0, w), (0, t), (0, (H : Int)), (0, (spF (opn v t) D k).1), (0, (spF (opn v t) D k).2), (0, (k : Int)), u8] [] (qS u) = qG L xs (d + 5) CX11_spare 139 [(2, 0), (0, y), (0, w), (0, t), (0, (H : Int)), (0, (spF (opn v t) D k).1), (0, (spF (opn v t) D k).2), (0, (k : Int)), u8] [(0, x), (0, (a : Int)), (2, 29)] (qS u) := by
        by_cases h0 : t = 0
        · refine ⟨12 + (k : Int), by omega, ?_, ?_⟩
          · rw [EC_E hW hLu (by omega), if_neg (by omega), if_neg (by omega), show 12 + (k : Int) - 12 = (k : Int) by omega]
            unfold spT
            rw [if_pos h0, if_pos h0]
          · rw [b_X11_spare_117, if_pos h0, y1, b_X11_spare_134, w32_id (by omega) (by omega)]
        · refine ⟨(k : Int), by omega, ?_, ?_⟩
          · rw [EC_E hW hLu (by omega), if_pos (by omega), if_pos (by omega)]
            unfold spT
            rw [if_neg h0, if_neg h0]
          · rw [b_X11_spare_117, if_neg h0, y1, b_X11_spare_129]
      obtain ⟨x, -, x2, x3⟩ := hx
      obtain ⟨u1, e1, e2, e3⟩ := c_from (L := L) (xs := xs) (d := d + 2) hLu.1 x2 ha
      have hu1 : ∀ c, c ≠ 34 → u1 c = v0 c := fun c hc => (e2 c hc).trans (hu c hc)
      have hbk : u1 34 b = D k := by
        rcases Lst_one (hD k (by omega)) (e3 b hb) with ⟨-, -, q, -⟩ | ⟨q1, q2, -⟩
        · exact q
        · omega
      obtain ⟨u', w8, e4, e5⟩ := lp_spare w ht y1 y2 ha hb hW hM hv0 hL hH hH2 hD n (k + 1) u1 (0, D k) (by omega) hu1
      refine ⟨u', w8, ?_, e5⟩
      refine Eq.trans ?_ e4
      rw [show ((k + 1 : Nat) : Int) = (k : Int) + 1 by omega, a1, if_neg g, x3, b_X11_spare_139, e1, qB_some, psh_none, b_X11_spare_142, y2, c_minutes (WOK_cg e2 hLu.1) hb, qB_some, psh_some, hbk, b_X11_spare_153]
      by_cases q : (spF (opn v t) D k).2 < D k
      · have e : spF (opn v t) D (k + 1) = ((k : Int), D k) := if_pos ⟨g1, q⟩
        rw [e, if_pos q, b_X11_spare_162, b_X11_spare_170, w32_id (by omega) (by omega)]
      · have e : spF (opn v t) D (k + 1) = spF (opn v t) D k := if_neg (fun z => q z.2)
        rw [e, if_neg q, b_X11_spare_170, w32_id (by omega) (by omega)]
theorem lp_mspare {a b H : Nat} {t y w : Int} {D : Nat → Int} (hw : w < 2 ↔ t = 1) (ht : t = 0 ∨ t = 1) (y1 : w32 (Int.tdiv y 100) = (a : Int)) (y2 : Int.tmod y 100 = (b : Int)) (ha : a < P) (hb : b < P) (hP : 2 * v 11 0 = (P : Int)) (hW : WW v) (hC : CW v) (hN : LN L xs v c) (hH : (if t = 0 then v 1 2 else v 1 1) = (H : Int)) (hH2 : H ≤ 12) (hD : ∀ k, k < H → Lst (spT v c t k) a b 9999 (D k)) : ∀ (n k : Nat) (u : Nat → Nat → Int) (u6 u7 : pm_V), k + n = H → fN v u → u 63 22 = -1 → ∃ u' w6 w7, qG L xs (d + 99) CX12_spare 32 [(2, 63), (0, y), (0, w), (0, (spF (opn v t) D k).1), (0, (spF (opn v t) D k).2), (0, (k : Int)), u6, u7] [] (qS u) = qG L xs (d + 99) CX12_spare 250 [(2, 63), (0, y), (0, w), (0, (spF (opn v t) D H).1), (0, (spF (opn v t) D H).2), (0, (H : Int)), w6, w7] [] (qS u') ∧ fN v u' ∧ u' 63 22 = -1
  | 0, k, u, u6, u7, hk, hu, h22 => by
    have e : k = H := by omega
    subst e
    obtain ⟨⟨-, k6, k8, -⟩, -⟩ := hC
    refine ⟨u, u6, u7, ?_, hu, h22⟩
    rw [b_X12_spare_32]
    by_cases h0 : t = 0
    · rw [if_pos h0] at hH
      rw [if_neg (by omega), b_X12_spare_46, b_X12_spare_50, hu.2 8 (by omega), if_neg (by omega)]
    · rw [if_neg h0] at hH
      rw [if_pos (by omega), b_X12_spare_39, b_X12_spare_50, hu.2 6 (by omega), if_neg (by omega)]
  | n + 1, k, u, u6, u7, hk, hu, h22 => by
    have hW0 := hW
    have hC0 := hC
    obtain ⟨⟨k1, k6, k8, k9, k10⟩, kh, kl⟩ := hC
    obtain ⟨q1, q2, q3, -⟩ := hW
    have c64 := fN_c hu (c := 64) (by omega)
    have c68 := fN_c hu (c := 68) (by omega)
    have c69 := fN_c hu (c := 69) (by omega)
    have c70 := fN_c hu (c := 70) (by omega)
    have hT := SG_ok (al := -1) (sh := if t = 0 then -1 else (k : Int)) (sl := if t = 0 then (k : Int) else -1) hW0 hN.1 hP (by omega)
    have a1 : qG L xs (d + 99) CX12_spare 32 [(2, 63), (0, y), (0, w), (0, (spF (opn v t) D k).1), (0, (spF (opn v t) D k).2), (0, (k : Int)), u6, u7] [] (qS u) = (if opn v t k = 0 then qG L xs (d + 99) CX12_spare 244 [(2, 63), (0, y), (0, w), (0, (spF (opn v t) D k).1), (0, (spF (opn v t) D k).2), (0, (k : Int)), (0, opn v t k), u7] [] (qS u) else qG L xs (d + 99) CX12_spare 151 [(2, 63), (0, y), (0, w), (0, (spF (opn v t) D k).1), (0, (spF (opn v t) D k).2), (0, (k : Int)), (0, opn v t k), u7] [] (qS u)) := by
      rw [b_X12_spare_32]
      by_cases h0 : t = 0
      · rw [if_pos h0] at hH
        obtain ⟨j1, j2, j3, j4⟩ := kl k (by omega)
        have e : opn v t k = zb (v 8 k = 1 ∧ (0 ≤ v 16 k ∧ v 16 k < 2 * v 11 0) ∧ 0 ≤ v 17 k ∧ v 17 k < 2 * v 11 0) := if_pos h0
        rw [if_neg (by omega), b_X12_spare_46, b_X12_spare_50, hu.2 8 (by omega), if_pos (by omega), b_X12_spare_53, if_neg (by omega), b_X12_spare_95, if_pos (by omega), Int.toNat_natCast, c69, j1, b_X12_spare_103, c_isPlace (by rw [c64]; omega) (by rw [c64]; omega), qB_some, psh_some, b_X12_spare_107, zb_0, c64, k1]
        by_cases g1 : 0 ≤ v 16 k ∧ v 16 k < 2 * v 11 0
        · rw [if_pos g1, b_X12_spare_110, if_pos (by omega), Int.toNat_natCast, c70, j2, b_X12_spare_118, c_isPlace (by rw [c64]; omega) (by rw [c64]; omega), qB_some, psh_some, b_X12_spare_122, zb_0, c64, k1]
          by_cases g2 : 0 ≤ v 17 k ∧ v 17 k < 2 * v 11 0
          · rw [if_pos g2, b_X12_spare_125, w32_id (by omega) (by omega), if_pos (by omega), show (114 + (k : Int)).toNat = 114 + k by omega, c64, j3, b_X12_spare_135]
            by_cases g3 : v 8 k = 1
            · rw [e, zb_t ⟨g3, g1, g2⟩, if_pos g3, b_X12_spare_139, b_X12_spare_144]
            · rw [e, zb_f (fun z => g3 z.1), if_neg g3, b_X12_spare_143, b_X12_spare_144]
          · rw [e, zb_f (fun z => g2 z.2.2), if_neg g2, b_X12_spare_143, b_X12_spare_144]
        · rw [e, zb_f (fun z => g1 z.2.1), if_neg g1, b_X12_spare_143, b_X12_spare_144]
      · rw [if_neg h0] at hH
        obtain ⟨j1, j2, j3⟩ := kh k (by omega)
        have e : opn v t k = zb (v 6 k = 1 ∧ 0 ≤ v 15 k ∧ v 15 k < v 11 0) := if_neg h0
        rw [if_pos (by omega), b_X12_spare_39, b_X12_spare_50, hu.2 6 (by omega), if_pos (by omega), b_X12_spare_53, if_pos (by omega), b_X12_spare_58, if_pos (by omega), Int.toNat_natCast, c68, j1, b_X12_spare_66, c_isYard (by rw [c64]; omega) (by rw [c64]; omega), qB_some, psh_some, b_X12_spare_70, zb_0, c64, k1]
        by_cases g1 : 0 ≤ v 15 k ∧ v 15 k < v 11 0
        · rw [if_pos g1, b_X12_spare_73, w32_id (by omega) (by omega), if_pos (by omega), show (90 + (k : Int)).toNat = 90 + k by omega, c64, j2, b_X12_spare_83]
          by_cases g3 : v 6 k = 1
          · rw [e, zb_t ⟨g3, g1⟩, if_pos g3, b_X12_spare_87, b_X12_spare_144]
          · rw [e, zb_f (fun z => g3 z.1), if_neg g3, b_X12_spare_91, b_X12_spare_144]
        · rw [e, zb_f (fun z => g1 z.2), if_neg g1, b_X12_spare_91, b_X12_spare_144]
    by_cases g : opn v t k = 0
    · obtain ⟨u', w6, w7, e1, e2, e3⟩ := lp_mspare hw ht y1 y2 ha hb hP hW0 hC0 hN hH hH2 hD n (k + 1) u (0, opn v t k) u7 (by omega) hu h22
      refine ⟨u', w6, w7, ?_, e2, e3⟩
      have e : spF (opn v t) D (k + 1) = spF (opn v t) D k := if_neg (by omega)
      rw [e, show ((k + 1 : Nat) : Int) = (k : Int) + 1 by omega] at e1
      refine Eq.trans ?_ e1
      rw [a1, if_pos g, b_X12_spare_244, w32_id (by omega) (by omega)]
    · have g1 : opn v t k = 1 := by
        rcases opn_01 v t k with q | q
        · exact absurd q g
        · exact q
      have a2 : qG L xs (d + 99) CX12_spare 151 [(2, 63), (0, y), (0, w), (0, (spF (opn v t) D k).1), (0, (spF (opn v t) D k).2), (0, (k : Int)), (0, opn v t k), u7] [] (qS u) = qG L xs (d + 99) CX12_spare 181 [(2, 63), (0, y), (0, w), (0, (spF (opn v t) D k).1), (0, (spF (opn v t) D k).2), (0, (k : Int)), (0, opn v t k), u7] [] (qS (pm_up (pm_up u 63 23 (if t = 0 then -1 else (k : Int))) 63 24 (if t = 0 then (k : Int) else -1))) := by
        by_cases h0 : t = 0
        · rw [if_pos h0, if_pos h0, b_X12_spare_151, if_neg (by omega), b_X12_spare_162, b_X12_spare_163, b_X12_spare_166, if_neg (by omega), b_X12_spare_176, b_X12_spare_178]
        · rw [if_neg h0, if_neg h0, b_X12_spare_151, if_pos (by omega), b_X12_spare_157, b_X12_spare_163, b_X12_spare_166, if_pos (by omega), b_X12_spare_172, b_X12_spare_178]
      obtain ⟨p, hp⟩ : ∃ p, p = pm_up (pm_up u 63 23 (if t = 0 then -1 else (k : Int))) 63 24 (if t = 0 then (k : Int) else -1) := ⟨_, rfl⟩
      rw [← hp] at a2
      have fp : fN v p := by
        refine fN_t hu ⟨fun c hc => ?_, fun j hj => ?_⟩
        · rw [hp, up_cell (by omega), up_cell (by omega)]
        · rw [hp, up_ne (by omega), up_ne (by omega)]
      obtain ⟨v3, f1, f2, f3⟩ := m_asks (L := L) (xs := xs) (d := d + 7) (v := p) (c := c) (al := -1) (sh := if t = 0 then -1 else (k : Int)) (sl := if t = 0 then (k : Int) else -1) (by rw [WW_N fp]; exact hW0) (by rw [CW_N fp]; exact hC0) (LN_N hN fp) (by rw [hp, up_ne (by omega), up_ne (by omega)]; exact h22) (by rw [hp, up_ne (by omega), up_eq]) (by rw [hp, up_eq]) (by rw [fN_c fp (c := 11) (by omega)]; omega)
      rw [SG_N fp] at f3
      have n3 : fN v v3 := fN_t fp (fA_N f2)
      obtain ⟨v4, r4, f4, f5, f6⟩ := m_wayFrom (L := L) (xs := xs) (d := d + 96) (s := a) (p := b) (by omega) (by rw [fN_c n3 (c := 64) (by omega), k1]; exact hP) hT f3 ha hb
      have n4 : fN v v4 := fN_t n3 (fP_75 f5).1
      have h22' : v4 63 22 = -1 := by
        rw [f5 63 (by decide) (by decide), f2.2 22 (by omega), hp, up_ne (by omega), up_ne (by omega)]
        exact h22
      have hr : (if r4 < 0 then 9999 else r4) = D k := by
        rcases Lst_one (hD k (by omega)) f6 with ⟨z1, z2, z3, -⟩ | ⟨z1, z2, -⟩
        · rw [if_neg (by omega)]; exact z3
        · rw [if_pos (by omega)]; exact z1.symm
      have a3 : qG L xs (d + 99) CX12_spare 197 [(2, 63), (0, y), (0, w), (0, (spF (opn v t) D k).1), (0, (spF (opn v t) D k).2), (0, (k : Int)), (0, opn v t k), u7] [(0, r4)] (qS v4) = qG L xs (d + 99) CX12_spare 212 [(2, 63), (0, y), (0, w), (0, (spF (opn v t) D k).1), (0, (spF (opn v t) D k).2), (0, (k : Int)), (0, opn v t k), (0, r4)] [(0, D k)] (qS v4) := by
        rw [b_X12_spare_197, ← hr]
        by_cases z : r4 < 0
        · rw [if_pos z, if_pos z, b_X12_spare_204]
        · rw [if_neg z, if_neg z, b_X12_spare_210]
      obtain ⟨u', w6, w7, e1, e2, e3⟩ := lp_mspare hw ht y1 y2 ha hb hP hW0 hC0 hN hH hH2 hD n (k + 1) v4 (0, opn v t k) (0, D k) (by omega) n4 h22'
      refine ⟨u', w6, w7, ?_, e2, e3⟩
      refine Eq.trans ?_ e1
      rw [show ((k + 1 : Nat) : Int) = (k : Int) + 1 by omega, a1, if_neg g, a2, b_X12_spare_181, f1, qB_some, psh_none, b_X12_spare_185, y1, y2, f4, qB_some, psh_some, a3, b_X12_spare_212]
      by_cases q : (spF (opn v t) D k).2 < D k
      · have e : spF (opn v t) D (k + 1) = ((k : Int), D k) := if_pos ⟨g1, q⟩
        rw [e, if_pos q, b_X12_spare_221, b_X12_spare_227, if_pos q, b_X12_spare_235, b_X12_spare_242, b_X12_spare_244, w32_id (by omega) (by omega)]
      · have e : spF (opn v t) D (k + 1) = spF (opn v t) D k := if_neg (fun z => q z.2)
        rw [e, if_neg q, b_X12_spare_226, b_X12_spare_227, if_neg q, b_X12_spare_240, b_X12_spare_242, b_X12_spare_244, w32_id (by omega) (by omega)]
theorem op_spare (hz : Wz L xs v c) (y w : Int) (hy : y < 2147483648) : opW L xs d v nX11_spare nX12_spare [(0, y), (0, w)] := by
  have hz0 := hz
  obtain ⟨hW, hC, hM, hN, h5, h6, h7⟩ := hz
  have hW0 := hW
  obtain ⟨q1, q2, q3, -⟩ := hW0
  have k1 := hC.1.1
  obtain ⟨P, hP⟩ : ∃ P : Nat, 2 * v 11 0 = (P : Int) := ⟨(2 * v 11 0).toNat, by omega⟩
  by_cases g : (0 ≤ y ∧ y / 100 < 2 * v 11 0 ∧ y % 100 < 2 * v 11 0) ∧ 0 ≤ w ∧ w ≤ 3
  · obtain ⟨a, ha⟩ : ∃ a : Nat, y / 100 = (a : Int) := ⟨(y / 100).toNat, by omega⟩
    obtain ⟨b, hb⟩ : ∃ b : Nat, y % 100 = (b : Int) := ⟨(y % 100).toNat, by omega⟩
    have y1 : w32 (Int.tdiv y 100) = (a : Int) := by rw [td_pos 100 (by omega), w32_id (by omega) (by omega), ha]
    have y2 : Int.tmod y 100 = (b : Int) := by rw [tm_pos 100 (by omega), hb]
    have haP : a < P := by omega
    have hbP : b < P := by omega
    obtain ⟨t, ht, hw⟩ : ∃ t : Int, (t = 0 ∨ t = 1) ∧ (w < 2 ↔ t = 1) := by
      by_cases h : w < 2
      · exact ⟨1, Or.inr rfl, fun _ => rfl, fun _ => h⟩
      · exact ⟨0, Or.inl rfl, fun q => absurd q h, fun q => by omega⟩
    obtain ⟨H, hH, hH2⟩ : ∃ H : Nat, (if t = 0 then v 1 2 else v 1 1) = (H : Int) ∧ H ≤ 12 := by
      by_cases h : t = 0
      · rw [if_pos h]; exact ⟨(v 1 2).toNat, by omega, by omega⟩
      · rw [if_neg h]; exact ⟨(v 1 1).toNat, by omega, by omega⟩
    obtain ⟨v1, S, e1, e2, e3⟩ := c_lay (L := L) (xs := xs) (d := d + 89) hW hP hM
    have hDx : ∀ k : Nat, ∃ x : Int, k < H → Lst (spT v c t k) a b 9999 x := fun k => by
      by_cases hk : k < H
      · by_cases h : t = 0
        · obtain ⟨u, -, -, e6⟩ := c_from (L := L) (xs := xs) (d := d) e3.1 (EC_E hW e3 (x := 12 + (k : Int)) (by omega)) haP
          refine ⟨u 34 b, fun _ => ?_⟩
          have := e6 b hbP
          rw [if_neg (by omega), if_neg (by omega), show 12 + (k : Int) - 12 = (k : Int) by omega] at this
          unfold spT
          rw [if_pos h, if_pos h]
          exact this
        · obtain ⟨u, -, -, e6⟩ := c_from (L := L) (xs := xs) (d := d) e3.1 (EC_E hW e3 (x := (k : Int)) (by omega)) haP
          refine ⟨u 34 b, fun _ => ?_⟩
          have := e6 b hbP
          rw [if_pos (by omega), if_pos (by omega)] at this
          unfold spT
          rw [if_neg h, if_neg h]
          exact this
      · exact ⟨0, fun q => absurd q hk⟩
    obtain ⟨D, hD⟩ := Classical.axiomOfChoice hDx
    obtain ⟨v2, w8, e4, e5⟩ := lp_spare (L := L) (xs := xs) (d := d + 94) (D := D) w ht y1 y2 haP hbP hW hM e2 e3 hH hH2 hD H 0 v1 (9, 0) (by omega) (fun _ _ => rfl)
    have f2 : fW v v2 := fW_t e2 (fW_own (fun c hc => e5 c (by omega)))
    obtain ⟨hW2, hC2, hM2, hN2, h52, h62, h72⟩ := Wz_W f2 hz0
    have hop : opn v2 t = opn v t := by
      funext k
      unfold opn
      rw [fW_c f2 (c := 6) (by omega), fW_c f2 (c := 8) (by omega), fW_c f2 (c := 11) (by omega), fW_c f2 (c := 15) (by omega), fW_c f2 (c := 16) (by omega), fW_c f2 (c := 17) (by omega)]
    have hsp : spT v2 = spT v := by
      funext c t k
      unfold spT
      rw [SG_W f2]
    obtain ⟨v3, w6, w7, e6, e7, e8⟩ := lp_mspare (L := L) (xs := xs) (d := d) (v := v2) (P := P) (D := D) hw ht y1 y2 haP hbP (by rw [fW_c f2 (c := 11) (by omega)]; exact hP) hW2 hC2 hN2 (by rw [fW_c f2 (c := 1) (by omega)]; exact hH) hH2 (by rw [hsp]; exact hD) H 0 v2 (9, 0) (9, 0) (by omega) (fN_r v2) h52
    rw [hop] at e6
    have hm2 : Int.tmod w 2 = w % 2 := tm_pos 2 (by omega)
    refine ⟨if w % 2 = 0 then (spF (opn v t) D H).1 else (spF (opn v t) D H).2, v2, pm_up (pm_up v3 63 23 (-1)) 63 24 (-1), ?_, f2, ?_, ⟨fN_t e7 ⟨fun c hc => by rw [up_cell (by omega), up_cell (by omega)], fun k hk => by rw [up_ne (by omega), up_ne (by omega)]⟩, ?_, ?_, ?_⟩⟩
    · rw [e_X11_spare, b_X11_spare_0, c_arePlaces (by omega) (by omega) y hy, qB_some, psh_some, b_X11_spare_5, zb_0, if_pos g.1, b_X11_spare_8, if_neg (by omega), b_X11_spare_12, if_neg (by omega), b_X11_spare_19, e1, qB_some, psh_none, b_X11_spare_34]
      have mid : (if w < 2 then qG L xs (d + 99) CX11_spare 39 [(2, 0), (0, y), (0, w), (9, 0), (9, 0), (9, 0), (9, 0), (9, 0), (9, 0)] [] (qS v1) else qG L xs (d + 99) CX11_spare 43 [(2, 0), (0, y), (0, w), (9, 0), (9, 0), (9, 0), (9, 0), (9, 0), (9, 0)] [] (qS v1)) = qG L xs (d + 99) CX11_spare 79 [(2, 0), (0, y), (0, w), (0, t), (0, (H : Int)), (0, -2), (0, -2), (0, 0), (9, 0)] [] (qS v1) := by
        rcases ht with h | h
        · rw [if_pos h] at hH
          rw [if_neg (by omega), b_X11_spare_43, b_X11_spare_44, if_pos rfl, b_X11_spare_59, b_X11_spare_66, fW_c e2 (c := 1) (by omega), hH, h]
        · rw [if_neg (by omega)] at hH
          rw [if_pos (by omega), b_X11_spare_39, b_X11_spare_44, if_neg (by decide), b_X11_spare_49, b_X11_spare_66, fW_c e2 (c := 1) (by omega), hH, h]
      rw [mid]
      refine Eq.trans e4 ?_
      rw [b_X11_spare_176, hm2]
      by_cases z : w % 2 = 0
      · rw [if_pos z, if_pos z, b_X11_spare_182, b_X11_spare_189]
      · rw [if_neg z, if_neg z, b_X11_spare_187, b_X11_spare_189]
    · have k2 := hC2.1.1
      have c11 : v2 11 0 = v 11 0 := by rw [fW_c f2 (c := 11) (by omega)]
      rw [e_X12_spare, b_X12_spare_0, m_isAb (by omega) (by omega) y hy, qB_some, psh_some, b_X12_spare_5, zb_0, if_pos (by rw [k2, c11]; exact g.1), b_X12_spare_8, c_within, qB_some, psh_some, b_X12_spare_17, zb_0, if_pos (by omega), b_X12_spare_22]
      refine Eq.trans e6 ?_
      rw [b_X12_spare_250, b_X12_spare_255, b_X12_spare_260, hm2]
      by_cases z : w % 2 = 0
      · rw [if_pos z, if_pos z, b_X12_spare_266, b_X12_spare_272]
      · rw [if_neg z, if_neg z, b_X12_spare_270, b_X12_spare_272]
    · rw [up_ne (by omega), up_ne (by omega), e8, h52]
    · rw [up_ne (by omega), up_eq, h62]
    · rw [up_eq, h72]
  · refine opW_no (r := -1) ?_ ?_
    · rw [e_X11_spare, b_X11_spare_0, c_arePlaces (by omega) (by omega) y hy, qB_some, psh_some, b_X11_spare_5, zb_0]
      by_cases g1 : 0 ≤ y ∧ y / 100 < 2 * v 11 0 ∧ y % 100 < 2 * v 11 0
      · rw [if_pos g1, b_X11_spare_8]
        by_cases g2 : w < 0
        · rw [if_pos g2, b_X11_spare_17]
        · rw [if_neg g2, b_X11_spare_12, if_pos (by omega), b_X11_spare_17]
      · rw [if_neg g1, b_X11_spare_17]
    · rw [e_X12_spare, b_X12_spare_0, m_isAb (by omega) (by omega) y hy, qB_some, psh_some, b_X12_spare_5, zb_0, k1]
      by_cases g1 : 0 ≤ y ∧ y / 100 < 2 * v 11 0 ∧ y % 100 < 2 * v 11 0
      · rw [if_pos g1, b_X12_spare_8, c_within, qB_some, psh_some, b_X12_spare_17, zb_0, if_neg (by omega), b_X12_spare_20]
      · rw [if_neg g1, b_X12_spare_20]
end SR
end
section
/-! DIG: both answer, and alike -/
section DI
variable {L : Nat} {xs : Nat → Int} {d : Nat} {v : Nat → Nat → Int} {c : Nat → Nat → Nat → Int} {P : Nat}
theorem mn_le (x y : Int) : pm_min x y ≤ x ∧ pm_min x y ≤ y ∧ (pm_min x y = x ∨ pm_min x y = y) := by
  unfold pm_min
  split <;> omega
theorem mx_le (x y : Int) : x ≤ pm_max x y ∧ y ≤ pm_max x y ∧ (pm_max x y = x ∨ pm_max x y = y) := by
  unfold pm_max
  split <;> omega
/-- a hole more, between p and q: the old ways tell it -/
def whB (f : Nat → Nat → Int) (p q s t : Nat) : Int := pm_min (f s t) (pm_min (f s p + 1 + f q t) (f s q + 1 + f p t))
theorem whB_Lst {E E' : Nat → Nat → Int → Prop} {f : Nat → Nat → Int} {p q s t : Nat} (hP : P ≤ 60) (hE : Okg E P 99) (hp : p < P) (hq : q < P) (hs : s < P) (ht : t < P) (hf : ∀ s t, s < P → t < P → Lst E s t 9999 (f s t)) (hE' : ∀ a b k, E' a b k ↔ E a b k ∨ (((a = p ∧ b = q) ∨ (a = q ∧ b = p)) ∧ k = 1)) : Lst E' s t 9999 (whB f p q s t) := by
  have hO : Okg E' P 99 := fun a b k he => by
    rcases (hE' a b k).mp he with h | ⟨⟨h1, h2⟩ | ⟨h1, h2⟩, h3⟩
    · exact hE a b k h
    · omega
    · omega
  have hin : ∀ s t, s < P → t < P → 0 ≤ f s t ∧ f s t ≤ 9999 := fun s t hs ht => by
    rcases hf s t hs ht with ⟨h1, h2, -⟩ | ⟨h1, -⟩
    · omega
    · omega
  have h0 : ∀ s, s < P → f s s = 0 := fun s hs => by
    rcases hf s s hs hs with ⟨h1, h2, -, h4⟩ | ⟨-, h2⟩
    · have := h4 0 0 (Wk_0 s)
      omega
    · exact absurd (Wk_0 s) (h2 0 0)
  have tri : ∀ s a b k, s < P → E a b k → f s a < 9999 → f s b ≤ f s a + k := fun s a b k hs he ha => by
    have ho := hE a b k he
    rcases hf s a hs ho.1 with ⟨-, -, ⟨n, h3⟩, -⟩ | ⟨h1, -⟩
    · rcases hf s b hs ho.2.1 with ⟨-, -, -, h4⟩ | ⟨-, h2⟩
      · exact h4 _ _ (Wk_snoc h3 he)
      · exact absurd (Wk_snoc h3 he) (h2 _ _)
    · omega
  have wk : ∀ s t, s < P → t < P → f s t < 9999 → ∃ n, Wk E' n s t (f s t) := fun s t hs ht h => by
    rcases hf s t hs ht with ⟨-, -, ⟨n, h3⟩, -⟩ | ⟨h1, -⟩
    · exact ⟨n, Wk_mono (fun a b k he => (hE' a b k).mpr (Or.inl he)) h3⟩
    · omega
  have epq : E' p q 1 := (hE' p q 1).mpr (Or.inr ⟨Or.inl ⟨rfl, rfl⟩, rfl⟩)
  have eqp : E' q p 1 := (hE' q p 1).mpr (Or.inr ⟨Or.inr ⟨rfl, rfl⟩, rfl⟩)
  have cases : ∀ t, whB f p q s t ≤ f s t ∧ whB f p q s t ≤ f s p + 1 + f q t ∧ whB f p q s t ≤ f s q + 1 + f p t ∧ (whB f p q s t = f s t ∨ whB f p q s t = f s p + 1 + f q t ∨ whB f p q s t = f s q + 1 + f p t) := fun t => by
    unfold whB
    have a := mn_le (f s t) (pm_min (f s p + 1 + f q t) (f s q + 1 + f p t))
    have b := mn_le (f s p + 1 + f q t) (f s q + 1 + f p t)
    omega
  refine IsD_Lst hO hP hs ht (by decide) (m := whB f p q s) ⟨?_, fun a b k he ha => ?_, fun t ht hm => ?_, fun t ht => ?_⟩
  · have a := cases s
    have a1 := h0 s hs
    have a2 := hin s p hs hp
    have a3 := hin q s hq hs
    have a4 := hin s q hs hq
    have a5 := hin p s hp hs
    omega
  · have ca := cases a
    have cb := cases b
    have s1 := hin s p hs hp
    have s2 := hin s q hs hq
    rcases (hE' a b k).mp he with h | ⟨⟨rfl, rfl⟩ | ⟨rfl, rfl⟩, rfl⟩
    · have ho := hE a b k h
      have t1 := tri s a b k hs h
      have t2 := tri p a b k hp h
      have t3 := tri q a b k hq h
      have s3 := hin s a hs ho.1
      have s4 := hin p a hp ho.1
      have s5 := hin q a hq ho.1
      rcases ca.2.2.2 with g | g | g
      · have := t1 (by omega)
        omega
      · have := t3 (by omega)
        omega
      · have := t2 (by omega)
        omega
    · have z1 := h0 a hp
      have z2 := h0 b hq
      have s3 := hin b a hq hp
      omega
    · have z1 := h0 a hq
      have z2 := h0 b hp
      have s3 := hin b a hp hq
      omega
  · have ct := cases t
    have s1 := hin s p hs hp
    have s2 := hin s q hs hq
    have s3 := hin p t hp ht
    have s4 := hin q t hq ht
    rcases ct.2.2.2 with g | g | g
    · rw [g] at hm ⊢
      exact wk s t hs ht hm
    · rw [g] at hm ⊢
      obtain ⟨n1, w1⟩ := wk s p hs hp (by omega)
      obtain ⟨n2, w2⟩ := wk q t hq ht (by omega)
      exact ⟨_, Wk_app (Wk_snoc w1 epq) w2⟩
    · rw [g] at hm ⊢
      obtain ⟨n1, w1⟩ := wk s q hs hq (by omega)
      obtain ⟨n2, w2⟩ := wk p t hp ht (by omega)
      exact ⟨_, Wk_app (Wk_snoc w1 eqp) w2⟩
  · have := (cases t).1
    have := hin s t hs ht
    omega
theorem mxF_le {m : Nat → Int} {w : Int} {z : Int} (hw : w ≤ z) (hm : ∀ p, p < P → m p ≤ z) : ∀ j, j ≤ P → w ≤ mxF m w j ∧ mxF m w j ≤ z
  | 0, _ => ⟨Int.le_refl w, hw⟩
  | j + 1, hj => by
    have ih := mxF_le hw hm j (by omega)
    have h := mx_le (mxF m w j) (m j)
    have := hm j (by omega)
    show w ≤ pm_max (mxF m w j) (m j) ∧ pm_max (mxF m w j) (m j) ≤ z
    omega
theorem mxA_le {A : Nat → Nat → Int} {z : Int} (hz : 0 ≤ z) (hA : ∀ s p, s < P → p < P → A s p ≤ z) : ∀ j, j ≤ P → 0 ≤ mxA A P j ∧ mxA A P j ≤ z
  | 0, _ => ⟨Int.le_refl 0, hz⟩
  | j + 1, hj => by
    have ih := mxA_le hz hA j (by omega)
    have h := mxF_le (w := mxA A P j) ih.2 (fun p hp => hA j p (by omega) hp) P (Nat.le_refl P)
    show 0 ≤ mxF (A j) (mxA A P j) P ∧ mxF (A j) (mxA A P j) P ≤ z
    omega
theorem mxA_mono {A : Nat → Nat → Int} {z : Int} (hz : 0 ≤ z) (hA : ∀ s p, s < P → p < P → A s p ≤ z) : ∀ n j, j + n = P → mxA A P j ≤ mxA A P P
  | 0, j, h => by rw [show j = P by omega]; exact Int.le_refl _
  | n + 1, j, h => by
    have ih := mxA_mono hz hA n (j + 1) (by omega)
    have l := mxA_le hz hA j (by omega)
    have h := mxF_le (w := mxA A P j) l.2 (fun p hp => hA j p (by omega) hp) P (Nat.le_refl P)
    have e : mxA A P (j + 1) = mxF (A j) (mxA A P j) P := rfl
    omega
theorem ix_a (s t : Nat) (hs : s < 100) (ht : t < 100) : w32 (w32 ((s : Int) * 60) + (t : Int)) = ((60 * s + t : Nat) : Int) := by
  rw [w32_id (z := (s : Int) * 60) (by omega) (by omega), w32_id (by omega) (by omega)]
  omega
theorem ix_b (y : Nat) (hy : y < 100) : w32 (((2 * y : Nat) : Int) + 1) = ((2 * y + 1 : Nat) : Int) := by
  rw [w32_id (by omega) (by omega)]
  omega
theorem ix_c (s y : Nat) (hs : s < 100) (hy : y < 100) : w32 (((60 * s + 2 * y : Nat) : Int) + 1) = ((60 * s + (2 * y + 1) : Nat) : Int) := by
  rw [w32_id (by omega) (by omega)]
  omega
theorem ix_r (s t : Nat) (hs : s < 60) (ht : t < 60) : 0 ≤ ((60 * s + t : Nat) : Int) ∧ ((60 * s + t : Nat) : Int) < 3600 := by omega
theorem c_withHole {S y s t : Nat} (h : WOK v S P) (hy : 2 * y + 1 < P) (hs : s < P) (ht : t < P) (hA : ∀ s t, s < P → t < P → 0 ≤ v 35 (60 * s + t) ∧ v 35 (60 * s + t) ≤ 9999) : qE L xs (d + 2) nX10_withHole [(2, 29), (0, (s : Int)), (0, (t : Int)), (0, ((2 * y : Nat) : Int))] (qS v) = some (some (0, whB (fun s t => v 35 (60 * s + t)) (2 * y) (2 * y + 1) s t), qS v) := by
  have hP := h.2.2.2.1
  have a1 := hA s (2 * y) hs (by omega)
  have a2 := hA (2 * y + 1) t (by omega) ht
  have a3 := hA s (2 * y + 1) hs (by omega)
  have a4 := hA (2 * y) t (by omega) ht
  rw [e_X10_withHole, b_X10_withHole_0, c_isThere h, qB_some, psh_some, b_X10_withHole_5, zb_0, if_pos (by omega), b_X10_withHole_8, ix_b y (by omega), c_isThere h, qB_some, psh_some, b_X10_withHole_15, zb_0, if_pos (by omega), b_X10_withHole_22, ix_a s (2 * y) (by omega) (by omega), if_pos (ix_r s (2 * y) (by omega) (by omega)), Int.toNat_natCast, b_X10_withHole_33, ix_b y (by omega), ix_a (2 * y + 1) t (by omega) (by omega), if_pos (ix_r (2 * y + 1) t (by omega) (by omega)), Int.toNat_natCast, b_X10_withHole_48, ix_a s (2 * y) (by omega) (by omega), ix_c s y (by omega) (by omega), if_pos (ix_r s (2 * y + 1) (by omega) (by omega)), Int.toNat_natCast]
  unfold whB
  dsimp only
  generalize v 35 (60 * s + 2 * y) = z1 at a1 ⊢
  generalize v 35 (60 * (2 * y + 1) + t) = z2 at a2 ⊢
  generalize v 35 (60 * s + (2 * y + 1)) = z3 at a3 ⊢
  rw [b_X10_withHole_64, ix_a (2 * y) t (by omega) (by omega), if_pos (ix_r (2 * y) t (by omega) (by omega)), Int.toNat_natCast]
  generalize v 35 (60 * (2 * y) + t) = z4 at a4 ⊢
  rw [b_X10_withHole_77, ix_a s t (by omega) (by omega), if_pos (ix_r s t (by omega) (by omega)), Int.toNat_natCast, b_X10_withHole_91]
  clear hA h
  rw [w32_id (z := z1 + 1) (by omega) (by omega), w32_id (z := z1 + 1 + z2) (by omega) (by omega), w32_id (z := z3 + 1) (by omega) (by omega), w32_id (z := z3 + 1 + z4) (by omega) (by omega)]
end DI
end
section
/-! DIG: both answer, and alike (the loops) -/
section DJ2
variable {L : Nat} {xs : Nat → Int} {d : Nat} {v : Nat → Nat → Int} {c : Nat → Nat → Nat → Int} {P : Nat}
theorem lp_hrow {S y i : Nat} {B : Nat → Nat → Int} (e w : Int) (h : WOK v S P) (hy : 2 * y + 1 < P) (hi : i < P) (hA : ∀ s t, s < P → t < P → 0 ≤ v 35 (60 * s + t) ∧ v 35 (60 * s + t) ≤ 9999) (hB : B = whB (fun s t => v 35 (60 * s + t)) (2 * y) (2 * y + 1)) : ∀ (n j : Nat), j + n = P → qG L xs (d + 2) CX10_widestWithHole 22 [(2, 29), (0, (y : Int)), (0, e), (0, mxF (B i) w j), (0, (i : Int)), (0, (j : Int))] [] (qS v) = qG L xs (d + 2) CX10_widestWithHole 53 [(2, 29), (0, (y : Int)), (0, e), (0, mxF (B i) w P), (0, (i : Int)), (0, (P : Int))] [] (qS v)
  | 0, j, hj => by
    have h9 := h.2.2.1
    rw [b_X10_widestWithHole_22, if_neg (by omega), show j = P by omega]
  | n + 1, j, hj => by
    have h9 := h.2.2.1
    have hP := h.2.2.2.1
    have h3 := lp_hrow e w h hy hi hA hB n (j + 1) (by omega)
    rw [show ((j + 1 : Nat) : Int) = (j : Int) + 1 by omega] at h3
    refine Eq.trans ?_ h3
    have e2 : w32 (2 * (y : Int)) = ((2 * y : Nat) : Int) := by
      rw [w32_id (by omega) (by omega)]; omega
    rw [b_X10_widestWithHole_22, if_pos (by omega), b_X10_widestWithHole_31, e2, c_withHole h hy hi (by omega) hA, ← hB, qB_some, psh_some, b_X10_widestWithHole_43, w32_id (by omega) (by omega)]
    rfl
theorem lp_hall {S y : Nat} {B : Nat → Nat → Int} (e : Int) (he : e ≤ 9999) (h : WOK v S P) (hy : 2 * y + 1 < P) (hA : ∀ s t, s < P → t < P → 0 ≤ v 35 (60 * s + t) ∧ v 35 (60 * s + t) ≤ 9999) (hB : B = whB (fun s t => v 35 (60 * s + t)) (2 * y) (2 * y + 1)) (hB9 : ∀ s t, s < P → t < P → B s t ≤ 9999) : ∀ (n i : Nat) (u5 : pm_V), i + n = P → ∃ r, qG L xs (d + 2) CX10_widestWithHole 5 [(2, 29), (0, (y : Int)), (0, e), (0, mxA B P i), (0, (i : Int)), u5] [] (qS v) = some (some (0, r), qS v) ∧ (mxA B P P < e → r = mxA B P P) ∧ (¬ mxA B P P < e → e ≤ r)
  | 0, i, u5, hi => by
    have h9 := h.2.2.1
    have hi2 : i = P := by omega
    subst hi2
    have hm := mxA_le (P := i) (z := 9999) (by decide) hB9 i (Nat.le_refl i)
    refine ⟨mxA B i i, ?_, fun _ => rfl, fun q => by omega⟩
    rw [b_X10_widestWithHole_5, if_neg (by omega), b_X10_widestWithHole_59, show pm_min (mxA B i i) 9999 = mxA B i i from if_neg (by omega)]
  | n + 1, i, u5, hi => by
    have h9 := h.2.2.1
    have hm := mxA_le (P := P) (z := 9999) (by decide) hB9 i (by omega)
    by_cases g : mxA B P i < e
    · obtain ⟨r, e1, e2, e3⟩ := lp_hall e he h hy hA hB hB9 n (i + 1) (0, (P : Int)) (by omega)
      have l := lp_hrow (L := L) (xs := xs) (d := d) (i := i) e (mxA B P i) h hy (by omega) hA hB P 0 (by omega)
      refine ⟨r, ?_, e2, e3⟩
      rw [show ((i + 1 : Nat) : Int) = (i : Int) + 1 by omega] at e1
      refine Eq.trans ?_ e1
      rw [b_X10_widestWithHole_5, if_pos (by omega), b_X10_widestWithHole_14, if_pos g, b_X10_widestWithHole_19]
      refine Eq.trans l ?_
      rw [b_X10_widestWithHole_53, w32_id (by omega) (by have := h.2.2.2.1; omega)]
      rfl
    · have hmo := mxA_mono (P := P) (z := 9999) (by decide) hB9 (n + 1) i hi
      refine ⟨mxA B P i, ?_, fun q => by omega, fun _ => by omega⟩
      rw [b_X10_widestWithHole_5, if_pos (by omega), b_X10_widestWithHole_14, if_neg g, b_X10_widestWithHole_59, show pm_min (mxA B P i) 9999 = mxA B P i from if_neg (by omega)]
theorem c_widestWithHole {S y : Nat} {B : Nat → Nat → Int} (e : Int) (he : e ≤ 9999) (h : WOK v S P) (hy : 2 * y + 1 < P) (hA : ∀ s t, s < P → t < P → 0 ≤ v 35 (60 * s + t) ∧ v 35 (60 * s + t) ≤ 9999) (hB : B = whB (fun s t => v 35 (60 * s + t)) (2 * y) (2 * y + 1)) (hB9 : ∀ s t, s < P → t < P → B s t ≤ 9999) : ∃ r, qE L xs (d + 3) nX10_widestWithHole [(2, 29), (0, (y : Int)), (0, e)] (qS v) = some (some (0, r), qS v) ∧ (mxA B P P < e → r = mxA B P P) ∧ (¬ mxA B P P < e → e ≤ r) := by
  obtain ⟨r, e1, e2, e3⟩ := lp_hall (L := L) (xs := xs) (d := d) e he h hy hA hB hB9 P 0 (9, 0) (by omega)
  refine ⟨r, ?_, e2, e3⟩
  rw [e_X10_widestWithHole, b_X10_widestWithHole_0]
  exact e1
/-- the best yard so far -/
def dgF (M : Nat → Int) : Nat → Int × Int
  | 0 => (0, 9999)
  | y + 1 => if M y < (dgF M y).2 then ((y : Int), M y) else dgF M y
theorem dgF_le (M : Nat → Int) : ∀ y, (dgF M y).2 ≤ 9999
  | 0 => by show (9999 : Int) ≤ 9999; omega
  | y + 1 => by
    have ih := dgF_le M y
    unfold dgF
    split
    · dsimp only
      omega
    · exact ih
theorem lp_dig {S Y : Nat} {B : Nat → Nat → Nat → Int} (w : Int) (h : WOK v S P) (hP : 2 * Y = P) (h11 : v 11 0 = (Y : Int)) (hA : ∀ s t, s < P → t < P → 0 ≤ v 35 (60 * s + t) ∧ v 35 (60 * s + t) ≤ 9999) (hB : ∀ y, B y = whB (fun s t => v 35 (60 * s + t)) (2 * y) (2 * y + 1)) (hB9 : ∀ y s t, y < Y → s < P → t < P → B y s t ≤ 9999) : ∀ (n y : Nat) (u5 : pm_V), y + n = Y → ∃ w5, qG L xs (d + 3) CX11_dig 42 [(2, 0), (0, w), (0, (dgF (fun y => mxA (B y) P P) y).1), (0, (dgF (fun y => mxA (B y) P P) y).2), (0, (y : Int)), u5] [] (qS v) = qG L xs (d + 3) CX11_dig 84 [(2, 0), (0, w), (0, (dgF (fun y => mxA (B y) P P) Y).1), (0, (dgF (fun y => mxA (B y) P P) Y).2), (0, (Y : Int)), w5] [] (qS v)
  | 0, y, u5, hy => by
    have hy2 : y = Y := by omega
    subst hy2
    refine ⟨u5, ?_⟩
    rw [b_X11_dig_42, c_yardsNow, qB_some, psh_some, b_X11_dig_51, if_neg (by omega)]
  | n + 1, y, u5, hy => by
    have hP2 := h.2.2.2.1
    obtain ⟨r, e1, e2, e3⟩ := c_widestWithHole (L := L) (xs := xs) (d := d) (y := y) (B := B y) (dgF (fun y => mxA (B y) P P) y).2 (dgF_le _ y) h (by omega) hA (hB y) (fun s t hs ht => hB9 y s t (by omega) hs ht)
    obtain ⟨w5, e4⟩ := lp_dig w h hP h11 hA hB hB9 n (y + 1) (0, r) (by omega)
    refine ⟨w5, ?_⟩
    refine Eq.trans ?_ e4
    rw [show ((y + 1 : Nat) : Int) = (y : Int) + 1 by omega, b_X11_dig_42, c_yardsNow, qB_some, psh_some, b_X11_dig_51, if_pos (by omega), b_X11_dig_54, e1, qB_some, psh_some, b_X11_dig_64]
    by_cases g : mxA (B y) P P < (dgF (fun y => mxA (B y) P P) y).2
    · have e : dgF (fun y => mxA (B y) P P) (y + 1) = ((y : Int), mxA (B y) P P) := if_pos g
      rw [e, e2 g, if_pos g, b_X11_dig_72, b_X11_dig_78, w32_id (by omega) (by omega)]
    · have e : dgF (fun y => mxA (B y) P P) (y + 1) = dgF (fun y => mxA (B y) P P) y := if_neg g
      have := e3 g
      rw [e, if_neg (by omega), b_X11_dig_78, w32_id (by omega) (by omega)]
theorem lp_mdig {Y : Nat} {M : Nat → Int} {B : Nat → Nat → Nat → Int} (w : Int) (hP : 2 * Y = P) (hW : WW v) (hC : CW v) (hN : LN L xs v c) (h11 : v 11 0 = (Y : Int)) (h6 : v 63 23 = -1) (h7 : v 63 24 = -1) (hB : ∀ y s t, y < Y → s < P → t < P → Lst (SG v c (y : Int) (-1) (-1)) s t 9999 (B y s t)) (hM : ∀ y, M y = mxA (B y) P P) (hM9 : ∀ y, y < Y → M y ≤ 9999) : ∀ (n y : Nat) (u : Nat → Nat → Int) (x2 x3 : Int) (u5 : pm_V), y + n = Y → fN v u → u 63 23 = -1 → u 63 24 = -1 → ((y = 0 ∧ x2 = -1 ∧ x3 = 0) ∨ (0 < y ∧ x2 = (dgF M y).1 ∧ x3 = (dgF M y).2 ∧ 0 ≤ x2)) → ∃ u' w5, qG L xs (d + 94) CX12_dig 19 [(2, 63), (0, w), (0, x2), (0, x3), (0, (y : Int)), u5] [] (qS u) = qG L xs (d + 94) CX12_dig 79 [(2, 63), (0, w), (0, (dgF M Y).1), (0, (dgF M Y).2), (0, (Y : Int)), w5] [] (qS u') ∧ fN v u' ∧ u' 63 23 = -1 ∧ u' 63 24 = -1
  | 0, y, u, x2, x3, u5, hy, hu, h6', h7', hx => by
    have hy2 : y = Y := by omega
    subst hy2
    have q1 := hW.1
    refine ⟨u, u5, ?_, hu, h6', h7'⟩
    have k1 := hC.1.1
    rw [b_X12_dig_19, c_yardMany, qB_some, psh_some, b_X12_dig_25, fN_c hu (c := 64) (by omega), if_neg (by omega)]
    rcases hx with ⟨h0, -⟩ | ⟨-, e2, e3, -⟩
    · omega
    · rw [e2, e3]
  | n + 1, y, u, x2, x3, u5, hy, hu, h6', h7', hx => by
    have hW0 := hW
    obtain ⟨q1, -⟩ := hW0
    have k1 := hC.1.1
    obtain ⟨p, hp⟩ : ∃ p, p = pm_up u 63 22 (y : Int) := ⟨_, rfl⟩
    have fp : fN v p := by
      refine fN_t hu ⟨fun c hc => ?_, fun j hj => ?_⟩
      · rw [hp, up_cell (by omega)]
      · rw [hp, up_ne (by omega)]
    obtain ⟨v1, r, f1, f2, f3⟩ := m_widestNow (L := L) (xs := xs) (d := d + 1) (v := p) (c := c) (P := P) (A := B y) (al := (y : Int)) (by rw [WW_N fp]; exact hW) (by rw [CW_N fp]; exact hC) (LN_N hN fp) (by rw [hp, up_eq]) (by rw [hp, up_ne (by omega)]; exact h6') (by rw [hp, up_ne (by omega)]; exact h7') (by rw [fN_c fp (c := 11) (by omega)]; omega) (by rw [fN_c fp (c := 11) (by omega)]; omega) (by rw [SG_N fp]; exact fun s t hs ht => hB y s t (by omega) hs ht)
    rw [← hM y] at f3
    have hM9y := hM9 y (by omega)
    have n1 : fN v v1 := fN_t fp f2.1
    have h6'' : v1 63 23 = -1 := by rw [f2.2.2.1, hp, up_ne (by omega)]; exact h6'
    have h7'' : v1 63 24 = -1 := by rw [f2.2.2.2, hp, up_ne (by omega)]; exact h7'
    have hr : (if r < 1000000 then r else 9999) = M y := by
      rcases f3 with ⟨z1, z2, z3⟩ | ⟨z1, z2⟩
      · rw [if_pos (by omega)]; exact z3
      · rw [if_neg (by omega)]; exact z1.symm
    have a1 : qG L xs (d + 94) CX12_dig 19 [(2, 63), (0, w), (0, x2), (0, x3), (0, (y : Int)), u5] [] (qS u) = (if x2 < 0 then qG L xs (d + 94) CX12_dig 67 [(2, 63), (0, w), (0, x2), (0, x3), (0, (y : Int)), (0, M y)] [] (qS v1) else qG L xs (d + 94) CX12_dig 61 [(2, 63), (0, w), (0, x2), (0, x3), (0, (y : Int)), (0, M y)] [] (qS v1)) := by
      rw [b_X12_dig_19, c_yardMany, qB_some, psh_some, b_X12_dig_25, fN_c hu (c := 64) (by omega), if_pos (by omega), b_X12_dig_28, ← hp, b_X12_dig_34, f1, qB_some, psh_some, b_X12_dig_38, ← hr]
      by_cases z : r < 1000000
      · rw [if_pos z, if_pos z, b_X12_dig_47, b_X12_dig_55]
      · rw [if_neg z, if_neg z, b_X12_dig_52, b_X12_dig_55]
    have hd9 := dgF_le M y
    have e1 : dgF M (y + 1) = if M y < (dgF M y).2 then ((y : Int), M y) else dgF M y := rfl
    rcases hx with ⟨h0, e2, e3⟩ | ⟨h0, e2, e3, e4⟩
    · have e5 : (dgF M (y + 1)).1 = (y : Int) ∧ (dgF M (y + 1)).2 = M y := by
        subst h0
        rw [e1]
        have e6 : dgF M 0 = (0, 9999) := rfl
        rw [e6]
        by_cases z : M 0 < 9999
        · rw [if_pos z]; exact ⟨rfl, rfl⟩
        · rw [if_neg z]; exact ⟨rfl, by show (9999 : Int) = M 0; omega⟩
      obtain ⟨u', w5, g1, g2⟩ := lp_mdig w hP hW hC hN h11 h6 h7 hB hM hM9 n (y + 1) v1 (y : Int) (M y) (0, M y) (by omega) n1 h6'' h7'' (Or.inr ⟨by omega, e5.1.symm, e5.2.symm, by omega⟩)
      refine ⟨u', w5, ?_, g2⟩
      refine Eq.trans ?_ g1
      rw [a1, if_pos (by omega), b_X12_dig_67, b_X12_dig_73, w32_id (by omega) (by omega)]
      rfl
    · by_cases z : M y < x3
      · have e5 : dgF M (y + 1) = ((y : Int), M y) := by rw [e1, if_pos (by omega)]
        obtain ⟨u', w5, g1, g2⟩ := lp_mdig w hP hW hC hN h11 h6 h7 hB hM hM9 n (y + 1) v1 (y : Int) (M y) (0, M y) (by omega) n1 h6'' h7'' (Or.inr ⟨by omega, by rw [e5], by rw [e5], by omega⟩)
        refine ⟨u', w5, ?_, g2⟩
        refine Eq.trans ?_ g1
        rw [a1, if_neg (by omega), b_X12_dig_61, if_pos z, b_X12_dig_67, b_X12_dig_73, w32_id (by omega) (by omega)]
        rfl
      · have e5 : dgF M (y + 1) = dgF M y := by rw [e1, if_neg (by omega)]
        obtain ⟨u', w5, g1, g2⟩ := lp_mdig w hP hW hC hN h11 h6 h7 hB hM hM9 n (y + 1) v1 x2 x3 (0, M y) (by omega) n1 h6'' h7'' (Or.inr ⟨by omega, by rw [e5]; exact e2, by rw [e5]; exact e3, e4⟩)
        refine ⟨u', w5, ?_, g2⟩
        refine Eq.trans ?_ g1
        rw [a1, if_neg (by omega), b_X12_dig_61, if_neg z, b_X12_dig_73, w32_id (by omega) (by omega)]
        rfl
theorem op_dig (hz : Wz L xs v c) (w : Int) : opW L xs d v nX11_dig nX12_dig [(0, w)] := by
  have hz0 := hz
  obtain ⟨hW, hC, hM, hN, h5, h6, h7⟩ := hz
  have hW0 := hW
  obtain ⟨q1, -⟩ := hW0
  obtain ⟨Y, hY⟩ : ∃ Y : Nat, v 11 0 = (Y : Int) := ⟨(v 11 0).toNat, by omega⟩
  have hP : 2 * v 11 0 = ((2 * Y : Nat) : Int) := by omega
  by_cases g : 0 ≤ w ∧ w ≤ 1
  · obtain ⟨v1, S, e1, e2, e3⟩ := c_lay (L := L) (xs := xs) (d := d + 89) hW hP hM
    obtain ⟨v2, e4, e5, e6⟩ := c_all (L := L) (xs := xs) (d := d + 95) e3.1 (EC_all hW e3)
    have f2 : fW v v2 := fW_t e2 (fW_own (fun c hc => e5 c (by omega) (by omega)))
    obtain ⟨hW2, hC2, hM2, hN2, h52, h62, h72⟩ := Wz_W f2 hz0
    have hK : WOK v2 S (2 * Y) := by
      unfold WOK
      rw [e5 29 (by decide) (by decide), e5 30 (by decide) (by decide), e5 31 (by decide) (by decide), e5 32 (by decide) (by decide)]
      exact e3.1
    have hT : Okg (SG v c (-1) (-1) (-1)) (2 * Y) 99 := SG_ok hW hM.1 hP (by omega)
    have hA : ∀ s t, s < 2 * Y → t < 2 * Y → 0 ≤ v2 35 (60 * s + t) ∧ v2 35 (60 * s + t) ≤ 9999 := fun s t hs ht => by
      rcases e6 s t hs ht with ⟨z1, z2, -⟩ | ⟨z1, -⟩
      · omega
      · omega
    have h11 : v2 11 0 = (Y : Int) := by rw [fW_c f2 (c := 11) (by omega)]; exact hY
    have hB : ∀ y s t, y < Y → s < 2 * Y → t < 2 * Y → Lst (SG v c (y : Int) (-1) (-1)) s t 9999 (whB (fun s t => v2 35 (60 * s + t)) (2 * y) (2 * y + 1) s t) := fun y s t hy hs ht => whB_Lst (P := 2 * Y) (by omega) hT (by omega) (by omega) hs ht e6 (fun a b k => by
      unfold SG thr
      rw [Int.toNat_natCast]
      constructor
      · rintro (z | z | ⟨z1, z2, z3⟩ | z | z)
        · exact Or.inl (Or.inl z)
        · exact Or.inl (Or.inr (Or.inl z))
        · exact Or.inr ⟨z2, z3⟩
        · exact Or.inl (Or.inr (Or.inr (Or.inr (Or.inl z))))
        · exact Or.inl (Or.inr (Or.inr (Or.inr (Or.inr z))))
      · rintro ((z | z | ⟨z1, z2, z3⟩ | z | z) | ⟨z2, z3⟩)
        · exact Or.inl z
        · exact Or.inr (Or.inl z)
        · omega
        · exact Or.inr (Or.inr (Or.inr (Or.inl z)))
        · exact Or.inr (Or.inr (Or.inr (Or.inr z)))
        · exact Or.inr (Or.inr (Or.inl ⟨by omega, z2, z3⟩)))
    have hB9 : ∀ y s t, y < Y → s < 2 * Y → t < 2 * Y → whB (fun s t => v2 35 (60 * s + t)) (2 * y) (2 * y + 1) s t ≤ 9999 := fun y s t hy hs ht => by
      rcases hB y s t hy hs ht with ⟨z1, z2, -⟩ | ⟨z1, -⟩
      · omega
      · omega
    obtain ⟨B, hBd⟩ : ∃ B : Nat → Nat → Nat → Int, ∀ y, B y = whB (fun s t => v2 35 (60 * s + t)) (2 * y) (2 * y + 1) := ⟨fun y => whB (fun s t => v2 35 (60 * s + t)) (2 * y) (2 * y + 1), fun _ => rfl⟩
    obtain ⟨w5, l1⟩ := lp_dig (L := L) (xs := xs) (d := d + 96) (v := v2) (P := 2 * Y) (B := B) w hK rfl h11 hA hBd (fun y s t hy hs ht => by rw [hBd]; exact hB9 y s t hy hs ht) Y 0 (9, 0) (by omega)
    obtain ⟨u', x5, l2, l3, l4, l5⟩ := lp_mdig (L := L) (xs := xs) (d := d + 5) (v := v2) (c := c) (P := 2 * Y) (B := B) (M := fun y => mxA (B y) (2 * Y) (2 * Y)) w rfl hW2 hC2 hN2 h11 h62 h72 (fun y s t hy hs ht => by rw [hBd, SG_W f2]; exact hB y s t hy hs ht) (fun _ => rfl) (fun y hy => (mxA_le (P := 2 * Y) (z := 9999) (by decide) (fun s t hs ht => by rw [hBd]; exact hB9 y s t hy hs ht) (2 * Y) (Nat.le_refl _)).2) Y 0 v2 (-1) 0 (9, 0) (by omega) (fN_r v2) h62 h72 (Or.inl ⟨rfl, rfl, rfl⟩)
    refine ⟨if w = 0 then (dgF (fun y => mxA (B y) (2 * Y) (2 * Y)) Y).1 else (dgF (fun y => mxA (B y) (2 * Y) (2 * Y)) Y).2, v2, pm_up u' 63 22 (-1), ?_, f2, ?_, ⟨fN_t l3 ⟨fun c hc => by rw [up_cell (by omega)], fun k hk => by rw [up_ne (by omega)]⟩, ?_, ?_, ?_⟩⟩
    · rw [e_X11_dig, b_X11_dig_0, if_neg (by omega), b_X11_dig_4, if_neg (by omega), b_X11_dig_11, e1, qB_some, psh_none, b_X11_dig_26, e4, qB_some, psh_none, b_X11_dig_33]
      refine Eq.trans l1 ?_
      rw [b_X11_dig_84]
      by_cases z : w = 0
      · rw [if_pos z, if_pos z, b_X11_dig_88, b_X11_dig_93]
      · rw [if_neg z, if_neg z, b_X11_dig_92, b_X11_dig_93]
    · rw [e_X12_dig, b_X12_dig_0, c_within, qB_some, psh_some, b_X12_dig_7, zb_0, if_pos g, b_X12_dig_12]
      refine Eq.trans l2 ?_
      rw [b_X12_dig_79, b_X12_dig_84]
      by_cases z : w = 0
      · rw [if_pos z, if_pos z, b_X12_dig_88, b_X12_dig_93]
      · rw [if_neg z, if_neg z, b_X12_dig_92, b_X12_dig_93]
    · rw [up_eq, h52]
    · rw [up_ne (by omega), l4, h62]
    · rw [up_ne (by omega), l5, h72]
  · refine opW_no (r := -1) ?_ ?_
    · rw [e_X11_dig, b_X11_dig_0]
      by_cases g1 : w < 0
      · rw [if_pos g1, b_X11_dig_9]
      · rw [if_neg g1, b_X11_dig_4, if_pos (by omega), b_X11_dig_9]
    · rw [e_X12_dig, b_X12_dig_0, c_within, qB_some, psh_some, b_X12_dig_7, zb_0, if_neg g, b_X12_dig_10]
end DJ2
end
