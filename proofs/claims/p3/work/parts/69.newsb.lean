/-! NEWS, HEARD, WHENCE: both answer, and alike -/
section NX
variable {L : Nat} {xs : Nat → Int} {d : Nat} {v : Nat → Nat → Int} {P : Nat}
theorem lp_nfill : ∀ (n j : Nat) (v : Nat → Nat → Int), j + n = 3600 → (∀ i, i < j → v 74 i = 1000000) → ∃ v', qG L xs d CX12_asksNews 2 [(2, 63), (0, (j : Int)), (9, 0), (9, 0)] [] (qS v) = qG L xs d CX12_asksNews 23 [(2, 63), (0, 3600), (9, 0), (9, 0)] [] (qS v') ∧ (∀ c, c ≠ 74 → v' c = v c) ∧ ∀ i, i < 3600 → v' 74 i = 1000000
  | 0, j, v, hj, h => by
    have hjN : j = 3600 := by omega
    subst hjN
    refine ⟨v, ?_, fun _ _ => rfl, h⟩
    rw [b_X12_asksNews_2, if_neg (by omega)]
    rfl
  | n + 1, j, v, hj, h => by
    obtain ⟨v', e1, e2, e3⟩ := lp_nfill n (j + 1) (pm_up v 74 j 1000000) (by omega) (fun i hi => by
      by_cases hij : i = j
      · rw [hij, up_eq]
      · rw [up_ne (by omega)]
        exact h i (by omega))
    refine ⟨v', ?_, fun c hc => (e2 c hc).trans (up_cell hc), e3⟩
    refine Eq.trans ?_ e1
    rw [b_X12_asksNews_2, if_pos (by omega), b_X12_asksNews_9, if_pos (by omega), Int.toNat_natCast, b_X12_asksNews_17, w32_id (by omega) (by omega)]
    rfl
/-- the ladder's steps, of the yards below y -/
def nU (th : Nat → Int) (tl : Int) (Y y : Nat) (a b : Nat) (k : Int) : Prop := (∃ z, z < y ∧ thr z a b ∧ k = th z) ∨ ((b = a + 2 ∧ a / 2 < y ∨ a = b + 2 ∧ b / 2 < y) ∧ a < 2 * Y ∧ b < 2 * Y ∧ k = tl)
theorem lp_nside {th : Nat → Int} {tl : Int} {Y y s : Nat} {T : Nat → Nat → Int → Prop} (hY : Y ≤ 30) (hy : y + 1 < Y) (hs : s < 2) (htl : 1 ≤ tl ∧ tl ≤ 30) (h1 : v 64 141 = tl) (h : MH v T) : ∃ v', qG L xs (d + 1) CX12_asksNews 47 [(2, 63), (0, (Y : Int)), (0, (y : Int)), (0, (s : Int))] [] (qS v) = qG L xs (d + 1) CX12_asksNews 47 [(2, 63), (0, (Y : Int)), (0, (y : Int)), (0, ((s + 1 : Nat) : Int))] [] (qS v') ∧ (∀ c, c ≠ 74 → v' c = v c) ∧ MH v' (fun a b k => T a b k ∨ (((a = 2 * y + s ∧ b = 2 * y + 2 + s) ∨ (a = 2 * y + 2 + s ∧ b = 2 * y + s)) ∧ k = tl)) := by
  obtain ⟨v1, e1, e2, e3⟩ := m_leads (L := L) (xs := xs) (d := d) h (a := 2 * y + s) (b := 2 * y + 2 + s) (by omega) (by omega) (k := tl) (by omega)
  obtain ⟨v2, e4, e5, e6⟩ := m_leads (L := L) (xs := xs) (d := d) e3 (a := 2 * y + 2 + s) (b := 2 * y + s) (by omega) (by omega) (k := tl) (by omega)
  have g1 : v1 64 141 = tl := by rw [e2 64 (by decide)]; exact h1
  refine ⟨v2, ?_, fun c hc => (e5 c hc).trans (e2 c hc), MH_if (fun a b k => ?_) e6⟩
  · have w1 : w32 (w32 (2 * (y : Int)) + (s : Int)) = ((2 * y + s : Nat) : Int) := by
      rw [w32_id (z := 2 * (y : Int)) (by omega) (by omega), w32_id (by omega) (by omega)]; omega
    have w2 : w32 (w32 (w32 (2 * (y : Int)) + 2) + (s : Int)) = ((2 * y + 2 + s : Nat) : Int) := by
      rw [w32_id (z := 2 * (y : Int)) (by omega) (by omega), w32_id (z := 2 * (y : Int) + 2) (by omega) (by omega), w32_id (by omega) (by omega)]; omega
    rw [b_X12_asksNews_47, if_pos (by omega), b_X12_asksNews_52, w32_id (z := (y : Int) + 1) (by omega) (by omega), if_pos (by omega), b_X12_asksNews_59, w1, w2, h1, e1, qB_some, psh_none, b_X12_asksNews_83, w1, w2, g1, e4, qB_some, psh_none, b_X12_asksNews_107, w32_id (by omega) (by omega)]
    rfl
  · constructor
    · rintro ((g | ⟨g1, g2, g3⟩) | ⟨g1, g2, g3⟩)
      · exact Or.inl g
      · exact Or.inr ⟨Or.inl ⟨g1, g2⟩, g3⟩
      · exact Or.inr ⟨Or.inr ⟨g1, g2⟩, g3⟩
    · rintro (g | ⟨⟨g1, g2⟩ | ⟨g1, g2⟩, g3⟩)
      · exact Or.inl (Or.inl g)
      · exact Or.inl (Or.inr ⟨g1, g2, g3⟩)
      · exact Or.inr ⟨g1, g2, g3⟩
theorem lp_news {th : Nat → Int} {tl : Int} {Y : Nat} (hY : Y ≤ 30) (hth : ∀ y, y < Y → 1 ≤ th y ∧ th y ≤ 9) (htl : 1 ≤ tl ∧ tl ≤ 30) : ∀ (n y : Nat) (v : Nat → Nat → Int) (u3 : pm_V), y + n = Y → v 64 141 = tl → (∀ y, y < Y → v 64 y = th y) → MH v (nU th tl Y y) → ∃ v', qG L xs (d + 3) CX12_asksNews 30 [(2, 63), (0, (Y : Int)), (0, (y : Int)), u3] [] (qS v) = some (none, qS v') ∧ (∀ c, c ≠ 74 → v' c = v c) ∧ MH v' (nU th tl Y Y)
  | 0, y, v, u3, hy, h1, h2, h => by
    have e : y = Y := by omega
    subst e
    refine ⟨v, ?_, fun _ _ => rfl, h⟩
    rw [b_X12_asksNews_30, if_neg (by omega), b_X12_asksNews_119]
  | n + 1, y, v, u3, hy, h1, h2, h => by
    have hty := hth y (by omega)
    obtain ⟨v1, e1, e2, e3⟩ := m_through (L := L) (xs := xs) (d := d + 1) h (y := y) (by omega) (k := th y) (by omega)
    have a1 : qG L xs (d + 3) CX12_asksNews 30 [(2, 63), (0, (Y : Int)), (0, (y : Int)), u3] [] (qS v) = qG L xs (d + 3) CX12_asksNews 47 [(2, 63), (0, (Y : Int)), (0, (y : Int)), (0, 0)] [] (qS v1) := by
      rw [b_X12_asksNews_30, if_pos (by omega), b_X12_asksNews_35, e_X12_thickOf, b_X12_thickOf_0, if_pos (by omega), Int.toNat_natCast, h2 y (by omega), b_X12_thickOf_6, qB_some, psh_some, b_X12_asksNews_42, e1, qB_some, psh_none, b_X12_asksNews_45]
    by_cases g : y + 1 < Y
    · obtain ⟨v2, e4, e5, e6⟩ := lp_nside (L := L) (xs := xs) (d := d + 2) (th := th) (s := 0) hY g (by omega) htl (by rw [e2 64 (by decide)]; exact h1) e3
      obtain ⟨v3, e7, e8, e9⟩ := lp_nside (L := L) (xs := xs) (d := d + 2) (th := th) (s := 1) hY g (by omega) htl (by rw [e5 64 (by decide), e2 64 (by decide)]; exact h1) e6
      have f3 : ∀ c, c ≠ 74 → v3 c = v c := fun c hc => (e8 c hc).trans ((e5 c hc).trans (e2 c hc))
      obtain ⟨v4, k1, k2, k3⟩ := lp_news hY hth htl n (y + 1) v3 (0, 2) (by omega) (by rw [f3 64 (by decide)]; exact h1) (by rw [f3 64 (by decide)]; exact h2) (MH_if (fun a b k => by
        unfold nU
        constructor
        · rintro ((((⟨z, z1, z2, z3⟩ | ⟨z1, z2, z3, z4⟩) | ⟨z1, z2⟩) | ⟨z1, z2⟩) | ⟨z1, z2⟩)
          · exact Or.inl ⟨z, by omega, z2, z3⟩
          · exact Or.inr ⟨by omega, z2, z3, z4⟩
          · exact Or.inl ⟨y, by omega, z1, z2⟩
          · exact Or.inr ⟨by omega, by omega, by omega, z2⟩
          · exact Or.inr ⟨by omega, by omega, by omega, z2⟩
        · rintro (⟨z, z1, z2, z3⟩ | ⟨z1, z2, z3, z4⟩)
          · by_cases hz : z = y
            · subst hz
              exact Or.inl (Or.inl (Or.inr ⟨z2, z3⟩))
            · exact Or.inl (Or.inl (Or.inl (Or.inl ⟨z, by omega, z2, z3⟩)))
          · by_cases hz : (b = a + 2 ∧ a / 2 < y ∨ a = b + 2 ∧ b / 2 < y)
            · exact Or.inl (Or.inl (Or.inl (Or.inr ⟨hz, z2, z3, z4⟩)))
            · by_cases h0 : (a = 2 * y + 0 ∧ b = 2 * y + 2 + 0) ∨ (a = 2 * y + 2 + 0 ∧ b = 2 * y + 0)
              · exact Or.inl (Or.inr ⟨h0, z4⟩)
              · exact Or.inr ⟨by omega, z4⟩) e9)
      refine ⟨v4, ?_, fun c hc => (k2 c hc).trans (f3 c hc), k3⟩
      refine Eq.trans ?_ k1
      rw [a1]
      refine Eq.trans e4 (Eq.trans e7 ?_)
      rw [b_X12_asksNews_47, if_neg (by omega), b_X12_asksNews_113, w32_id (by omega) (by omega)]
      rfl
    · obtain ⟨v4, k1, k2, k3⟩ := lp_news hY hth htl n (y + 1) v1 (0, 0) (by omega) (by rw [e2 64 (by decide)]; exact h1) (by rw [e2 64 (by decide)]; exact h2) (MH_if (fun a b k => by
        unfold nU
        constructor
        · rintro ((⟨z, z1, z2, z3⟩ | ⟨z1, z2, z3, z4⟩) | ⟨z1, z2⟩)
          · exact Or.inl ⟨z, by omega, z2, z3⟩
          · exact Or.inr ⟨by omega, z2, z3, z4⟩
          · exact Or.inl ⟨y, by omega, z1, z2⟩
        · rintro (⟨z, z1, z2, z3⟩ | ⟨z1, z2, z3, z4⟩)
          · by_cases hz : z = y
            · subst hz
              exact Or.inr ⟨z2, z3⟩
            · exact Or.inl (Or.inl ⟨z, by omega, z2, z3⟩)
          · exact Or.inl (Or.inr ⟨by omega, z2, z3, z4⟩)) e3)
      refine ⟨v4, ?_, fun c hc => (k2 c hc).trans (e2 c hc), k3⟩
      refine Eq.trans ?_ k1
      rw [a1, b_X12_asksNews_47, if_pos (by omega), b_X12_asksNews_52, w32_id (by omega) (by omega), if_neg (by omega), b_X12_asksNews_113, w32_id (by omega) (by omega)]
      rfl
theorem m_asksNews {Y : Nat} (hW : WN v) (hC : CN v) (hY : v 11 0 = (Y : Int)) : ∃ v', qE L xs (d + 4) nX12_asksNews [(2, 63)] (qS v) = some (none, qS v') ∧ (∀ c, c ≠ 74 → v' c = v c) ∧ MH v' (nT (v 3) (v 12 0) Y) := by
  obtain ⟨q1, q2, q3⟩ := hW
  obtain ⟨k1, k2, k3⟩ := hC
  obtain ⟨v1, e1, e2, e3⟩ := lp_nfill (L := L) (xs := xs) (d := d + 3) 3600 0 v (by omega) (fun i hi => absurd hi (by omega))
  obtain ⟨v2, e4, e5, e6⟩ := lp_news (L := L) (xs := xs) (d := d) (th := v 3) (tl := v 12 0) (Y := Y) (by omega) (fun y hy => q2 y (by omega)) q3 Y 0 v1 (9, 0) (by omega) (by rw [e2 64 (by decide)]; exact k3) (fun y hy => by rw [e2 64 (by decide)]; exact k2 y (by omega)) ⟨fun a b ha hb => Or.inl (e3 _ (by omega)), fun a b k hk => by
    rcases hk with ⟨z, z1, -⟩ | ⟨z1, -⟩
    · omega
    · omega, fun a b k hk => by
    rcases hk with ⟨z, z1, -⟩ | ⟨z1, -⟩
    · omega
    · omega⟩
  refine ⟨v2, ?_, fun c hc => (e5 c hc).trans (e2 c hc), MH_if (fun a b k => ?_) e6⟩
  · rw [e_X12_asksNews, b_X12_asksNews_0]
    refine Eq.trans e1 ?_
    rw [b_X12_asksNews_23, c_yardMany, qB_some, psh_some, b_X12_asksNews_27, e2 64 (by decide), k1, hY]
    exact e4
  · unfold nU nT
    constructor
    · rintro (z | ⟨z1, z2, z3, z4⟩)
      · exact Or.inl z
      · exact Or.inr ⟨by omega, z2, z3, z4⟩
    · rintro (z | ⟨z1, z2, z3, z4⟩)
      · exact Or.inl z
      · exact Or.inr ⟨by omega, z2, z3, z4⟩
theorem m_nfrom {Y s : Nat} {u : Nat → Nat → Int} (hW : WN v) (hY : v 11 0 = (Y : Int)) (h64 : u 64 140 = (Y : Int)) (h : MH u (nT (v 3) (v 12 0) Y)) (hs : s < 2 * Y) : ∃ v', qE L xs (d + 2) nX12_goesFrom [(2, 63), (0, (s : Int))] (qS u) = some (none, qS v') ∧ (∀ c, c ≠ 75 → c ≠ 76 → v' c = u c) ∧ ∀ p, p < 2 * Y → v' 75 p = hN (v 3) (v 12 0) Y s p := by
  obtain ⟨q1, q2, q3⟩ := hW
  obtain ⟨v1, e1, e2, e3⟩ := m_from (L := L) (xs := xs) (d := d) (v := u) (N := 2 * Y) (by omega) (by omega) (nT_ok (th := v 3) (fun y hy => q2 y (by omega)) q3) h hs
  refine ⟨v1, e1, e2, fun p hp => ?_⟩
  have hl := hN_Lst (th := v 3) (tl := v 12 0) (Y := Y) (a := s) (b := p) (by omega) (fun y hy => q2 y (by omega)) q3 hs hp
  have hi := hN_in (th := v 3) (tl := v 12 0) (Y := Y) (a := s) (b := p) (by omega) (fun y hy => q2 y (by omega)) q3 hs hp
  rcases Lst_one hl (e3 p hp) with ⟨-, -, x, -⟩ | ⟨x, -⟩
  · exact x
  · omega
theorem op_news (hW : WN v) (hC : CN v) (y : Int) (hy : y < 2147483648) : opW L xs d v nX11_news nX12_news [(0, y)] := by
  have hW0 := hW
  obtain ⟨q1, q2, q3⟩ := hW0
  have k1 := hC.1
  obtain ⟨Y, hY⟩ : ∃ Y : Nat, v 11 0 = (Y : Int) := ⟨(v 11 0).toNat, by omega⟩
  by_cases g : 0 ≤ y ∧ y / 100 < 2 * v 11 0 ∧ y % 100 < 2 * v 11 0
  · obtain ⟨a, ha⟩ : ∃ a : Nat, y / 100 = (a : Int) := ⟨(y / 100).toNat, by omega⟩
    obtain ⟨b, hb⟩ : ∃ b : Nat, y % 100 = (b : Int) := ⟨(y % 100).toNat, by omega⟩
    have y1 : w32 (Int.tdiv y 100) = (a : Int) := by rw [td_pos 100 (by omega), w32_id (by omega) (by omega), ha]
    have y2 : Int.tmod y 100 = (b : Int) := by rw [tm_pos 100 (by omega), hb]
    obtain ⟨v1, e1, e2, e3⟩ := m_asksNews (L := L) (xs := xs) (d := d + 95) hW hC hY
    have hT := nT_ok (th := v 3) (tl := v 12 0) (Y := Y) (fun y hy => q2 y (by omega)) q3
    obtain ⟨v2, r, e4, e5, e6⟩ := m_wayFrom (L := L) (xs := xs) (d := d + 96) (v := v1) (N := 2 * Y) (s := a) (p := b) (by omega) (by rw [e2 64 (by decide)]; omega) hT e3 (by omega) (by omega)
    have hl := hN_Lst (th := v 3) (tl := v 12 0) (Y := Y) (a := a) (b := b) (by omega) (fun y hy => q2 y (by omega)) q3 (by omega) (by omega)
    have hi := hN_in (th := v 3) (tl := v 12 0) (Y := Y) (a := a) (b := b) (by omega) (fun y hy => q2 y (by omega)) q3 (by omega) (by omega)
    have hr : r = hN (v 3) (v 12 0) Y a b := by
      rcases Lst_one hl e6 with ⟨-, -, x, -⟩ | ⟨x, -⟩
      · exact x
      · omega
    refine ⟨hN (v 3) (v 12 0) Y a b, v, v2, ?_, fW_r v, ?_, fP_t (fA_P (fA_74 e2)) (fP_75 e5)⟩
    · rw [e_X11_news, b_X11_news_0, c_arePlaces (by omega) (by omega) y hy, qB_some, psh_some, b_X11_news_5, zb_0, if_pos g, b_X11_news_8, y1, y2, c_hearing hW hY (by omega) (by omega), qB_some, psh_some, b_X11_news_23, b_X11_news_27]
    · rw [e_X12_news, b_X12_news_0, m_isAb (by omega) (by omega) y hy, qB_some, psh_some, b_X12_news_5, zb_0, if_pos (by omega), b_X12_news_10, e1, qB_some, psh_none, b_X12_news_14, y1, y2, e4, qB_some, psh_some, b_X12_news_26, hr]
  · refine opW_no (r := -1) ?_ ?_
    · rw [e_X11_news, b_X11_news_0, c_arePlaces (by omega) (by omega) y hy, qB_some, psh_some, b_X11_news_5, zb_0, if_neg g, b_X11_news_26, b_X11_news_27]
    · rw [e_X12_news, b_X12_news_0, m_isAb (by omega) (by omega) y hy, qB_some, psh_some, b_X12_news_5, zb_0, k1, if_neg g, b_X12_news_8]
/-- the last of the greatest -/
def ltF (m : Nat → Int) : Nat → Nat
  | 0 => 0
  | j + 1 => if m (ltF m j) ≤ m j then j else ltF m j
theorem ltF_in (m : Nat → Int) : ∀ j, ltF m j ≤ j
  | 0 => Nat.le_refl 0
  | j + 1 => by
    have := ltF_in m j
    unfold ltF
    split <;> omega
theorem lp_hmany {Y a : Nat} (x : Int) (hW : WN v) (hY : v 11 0 = (Y : Int)) (ha : a < 2 * Y) : ∀ (n j : Nat), j + n = 2 * Y → qG L xs (d + 4) CX6_howManyHear 5 [(2, 1), (0, (a : Int)), (0, x), (0, foC (hN (v 3) (v 12 0) Y a) x j), (0, (j : Int))] [] (qS v) = some (some (0, foC (hN (v 3) (v 12 0) Y a) x (2 * Y)), qS v)
  | 0, j, hj => by
    have q1 := hW.1
    rw [b_X6_howManyHear_5, c_placesNow (by omega) (by omega), qB_some, psh_some, b_X6_howManyHear_11, if_neg (by omega), b_X6_howManyHear_39, show j = 2 * Y by omega]
  | n + 1, j, hj => by
    have q1 := hW.1
    have ih := lp_hmany x hW hY ha n (j + 1) (by omega)
    have hc := foC_in (hN (v 3) (v 12 0) Y a) x j
    refine Eq.trans ?_ ih
    have e : foC (hN (v 3) (v 12 0) Y a) x (j + 1) = foC (hN (v 3) (v 12 0) Y a) x j + (if x < hN (v 3) (v 12 0) Y a j then 0 else 1) := rfl
    rw [e, b_X6_howManyHear_5, c_placesNow (by omega) (by omega), qB_some, psh_some, b_X6_howManyHear_11, if_pos (by omega), b_X6_howManyHear_14, c_hearing hW hY ha (by omega), qB_some, psh_some, b_X6_howManyHear_22]
    by_cases g : x < hN (v 3) (v 12 0) Y a j
    · rw [if_pos g, if_pos g, b_X6_howManyHear_30, b_X6_howManyHear_31, w32_id (by omega) (by omega), w32_id (by omega) (by omega)]
      rfl
    · rw [if_neg g, if_neg g, b_X6_howManyHear_26, b_X6_howManyHear_31, w32_id (by omega) (by omega), w32_id (by omega) (by omega)]
      rfl
theorem lp_hlast {Y a : Nat} (hW : WN v) (hY : v 11 0 = (Y : Int)) (ha : a < 2 * Y) : ∀ (n j : Nat) (x y : Int) (u5 : pm_V), j + n = 2 * Y → ((j = 0 ∧ y = 0) ∨ (0 < j ∧ x = (ltF (hN (v 3) (v 12 0) Y a) j : Int) ∧ y = hN (v 3) (v 12 0) Y a (ltF (hN (v 3) (v 12 0) Y a) j))) → qG L xs (d + 4) CX6_lastToHear 7 [(2, 1), (0, (a : Int)), (0, x), (0, y), (0, (j : Int)), u5] [] (qS v) = some (some (0, (ltF (hN (v 3) (v 12 0) Y a) (2 * Y) : Int)), qS v)
  | 0, j, x, y, u5, hj, hx => by
    have q1 := hW.1
    have hj2 : j = 2 * Y := by omega
    rw [b_X6_lastToHear_7, c_placesNow (by omega) (by omega), qB_some, psh_some, b_X6_lastToHear_13, if_neg (by omega), b_X6_lastToHear_43]
    rcases hx with ⟨h, -⟩ | ⟨-, h, -⟩
    · omega
    · rw [h, hj2]
  | n + 1, j, x, y, u5, hj, hx => by
    obtain ⟨q1, q2, q3⟩ := hW
    have hi := hN_in (th := v 3) (tl := v 12 0) (Y := Y) (a := a) (b := j) (by omega) (fun y hy => q2 y (by omega)) q3 ha (by omega)
    generalize hmd : hN (v 3) (v 12 0) Y a = m at hx hi ⊢
    have hear : qE L xs (d + 4) nX6_hearing [(2, 1), (0, (a : Int)), (0, (j : Int))] (qS v) = some (some (0, m j), qS v) := by
      rw [← hmd]
      exact c_hearing ⟨q1, q2, q3⟩ hY ha (by omega)
    have e : ltF m (j + 1) = if m (ltF m j) ≤ m j then j else ltF m j := rfl
    by_cases g : m j < y
    · have hx2 : 0 < j ∧ x = (ltF m j : Int) ∧ y = m (ltF m j) := by
        rcases hx with ⟨h1, h2⟩ | h
        · omega
        · exact h
      have ih := lp_hlast ⟨q1, q2, q3⟩ hY ha n (j + 1) x y (0, m j) (by omega) (by
        rw [hmd]
        refine Or.inr ⟨by omega, ?_, ?_⟩
        · rw [e, if_neg (by omega)]; exact hx2.2.1
        · rw [e, if_neg (by omega)]; exact hx2.2.2)
      rw [hmd] at ih
      refine Eq.trans ?_ ih
      rw [b_X6_lastToHear_7, c_placesNow (by omega) (by omega), qB_some, psh_some, b_X6_lastToHear_13, if_pos (by omega), b_X6_lastToHear_16, hear, qB_some, psh_some, b_X6_lastToHear_23, if_pos g, b_X6_lastToHear_37, w32_id (by omega) (by omega)]
      rfl
    · have hl : ltF m (j + 1) = j := by
        rw [e]
        rcases hx with ⟨h1, h2⟩ | ⟨h0, h1, h2⟩
        · subst h1
          exact if_pos (Int.le_refl _)
        · exact if_pos (by omega)
      have ih := lp_hlast ⟨q1, q2, q3⟩ hY ha n (j + 1) (j : Int) (m j) (0, m j) (by omega) (by
        rw [hmd, hl]
        exact Or.inr ⟨by omega, rfl, rfl⟩)
      rw [hmd] at ih
      refine Eq.trans ?_ ih
      rw [b_X6_lastToHear_7, c_placesNow (by omega) (by omega), qB_some, psh_some, b_X6_lastToHear_13, if_pos (by omega), b_X6_lastToHear_16, hear, qB_some, psh_some, b_X6_lastToHear_23, if_neg g, b_X6_lastToHear_31, b_X6_lastToHear_37, w32_id (by omega) (by omega)]
      rfl
theorem lp_mheard {m : Nat → Int} {Y : Nat} (x1 x : Int) (hY : v 64 140 = (Y : Int)) (hY2 : Y ≤ 30) (hm : ∀ p, p < 2 * Y → v 75 p = m p) : ∀ (n j : Nat), j + n = 2 * Y → qG L xs (d + 1) CX12_heard 42 [(2, 63), (0, x1), (0, x), (0, foC m x j), (0, (ltF m j : Int)), (0, (j : Int))] [] (qS v) = qG L xs (d + 1) CX12_heard 104 [(2, 63), (0, x1), (0, x), (0, foC m x (2 * Y)), (0, (ltF m (2 * Y) : Int)), (0, ((2 * Y : Nat) : Int))] [] (qS v)
  | 0, j, hj => by
    rw [b_X12_heard_42, c_yardMany, qB_some, psh_some, b_X12_heard_49, w32_id (by omega) (by omega), if_neg (by omega), show j = 2 * Y by omega]
  | n + 1, j, hj => by
    have ih := lp_mheard x1 x hY hY2 hm n (j + 1) (by omega)
    have hc := foC_in m x j
    have hl := ltF_in m j
    refine Eq.trans ?_ ih
    have e : foC m x (j + 1) = foC m x j + (if x < m j then 0 else 1) := rfl
    have e2 : ltF m (j + 1) = if m (ltF m j) ≤ m j then j else ltF m j := rfl
    have a1 : qG L xs (d + 1) CX12_heard 42 [(2, 63), (0, x1), (0, x), (0, foC m x j), (0, (ltF m j : Int)), (0, (j : Int))] [] (qS v) = qG L xs (d + 1) CX12_heard 86 [(2, 63), (0, x1), (0, x), (0, foC m x (j + 1)), (0, (ltF m j : Int)), (0, (j : Int))] [(0, m (ltF m j)), (0, m j)] (qS v) := by
      rw [e, b_X12_heard_42, c_yardMany, qB_some, psh_some, b_X12_heard_49, w32_id (by omega) (by omega), if_pos (by omega), b_X12_heard_53, if_pos (by omega), Int.toNat_natCast, hm j (by omega), b_X12_heard_61]
      by_cases g : x < m j
      · rw [if_pos g, if_pos g, b_X12_heard_69, b_X12_heard_70, if_pos (by omega), Int.toNat_natCast, hm j (by omega), w32_id (by omega) (by omega), b_X12_heard_79, if_pos (by omega), Int.toNat_natCast, hm _ (by omega)]
      · rw [if_neg g, if_neg g, b_X12_heard_65, b_X12_heard_70, if_pos (by omega), Int.toNat_natCast, hm j (by omega), w32_id (by omega) (by omega), b_X12_heard_79, if_pos (by omega), Int.toNat_natCast, hm _ (by omega)]
    rw [a1, b_X12_heard_86, e2]
    by_cases g : m (ltF m j) ≤ m j
    · rw [if_neg (by omega), if_pos g, b_X12_heard_89, b_X12_heard_96, w32_id (by omega) (by omega)]
      rfl
    · rw [if_pos (by omega), if_neg g, b_X12_heard_94, b_X12_heard_96, w32_id (by omega) (by omega)]
      rfl
theorem op_heard (hW : WN v) (hC : CN v) (a w : Int) : opW L xs d v nX11_heard nX12_heard [(0, a), (0, w)] := by
  have hW0 := hW
  obtain ⟨q1, q2, q3⟩ := hW0
  have k1 := hC.1
  obtain ⟨Y, hY⟩ : ∃ Y : Nat, v 11 0 = (Y : Int) := ⟨(v 11 0).toNat, by omega⟩
  by_cases g : (0 ≤ a ∧ a < 2 * v 11 0) ∧ -1 ≤ w ∧ w ≤ 999
  · obtain ⟨s, rfl⟩ : ∃ s : Nat, a = (s : Int) := ⟨a.toNat, by omega⟩
    obtain ⟨v1, e1, e2, e3⟩ := m_asksNews (L := L) (xs := xs) (d := d + 95) hW hC hY
    have h64 : v1 64 140 = (Y : Int) := by rw [e2 64 (by decide)]; omega
    obtain ⟨v2, e4, e5, e6⟩ := m_nfrom (L := L) (xs := xs) (d := d + 97) (s := s) hW hY h64 e3 (by omega)
    have l1 := lp_hmany (L := L) (xs := xs) (d := d + 94) (v := v) (a := s) w hW hY (by omega) (2 * Y) 0 (by omega)
    have l2 := lp_hlast (L := L) (xs := xs) (d := d + 94) (v := v) (a := s) hW hY (by omega) (2 * Y) 0 (s : Int) 0 (9, 0) (by omega) (Or.inl ⟨rfl, rfl⟩)
    have l3 := lp_mheard (L := L) (xs := xs) (d := d + 98) (v := v2) (m := hN (v 3) (v 12 0) Y s) (Y := Y) (s : Int) w (by rw [e5 64 (by decide) (by decide)]; exact h64) (by omega) e6 (2 * Y) 0 (by omega)
    refine ⟨if w < 0 then (ltF (hN (v 3) (v 12 0) Y s) (2 * Y) : Int) else foC (hN (v 3) (v 12 0) Y s) w (2 * Y), v, v2, ?_, fW_r v, ?_, fP_t (fA_P (fA_74 e2)) (fP_75 e5)⟩
    · rw [e_X11_heard, b_X11_heard_0, c_hasPlace (by omega) (by omega), qB_some, psh_some, b_X11_heard_8, zb_0, if_pos g.1, b_X11_heard_11, if_neg (by omega), b_X11_heard_16, if_neg (by omega), b_X11_heard_25]
      by_cases z : w < 0
      · rw [if_pos z, if_pos z, b_X11_heard_29, e_X6_lastToHear, b_X6_lastToHear_0]
        rw [show qG L xs (d + 98) CX6_lastToHear 7 [(2, 1), (0, (s : Int)), (0, (s : Int)), (0, 0), (0, 0), (9, 0)] [] (qS v) = _ from l2, qB_some, psh_some, b_X11_heard_37, b_X11_heard_49]
      · rw [if_neg z, if_neg z, b_X11_heard_40, e_X6_howManyHear, b_X6_howManyHear_0]
        rw [show qG L xs (d + 98) CX6_howManyHear 5 [(2, 1), (0, (s : Int)), (0, w), (0, 0), (0, 0)] [] (qS v) = _ from l1, qB_some, psh_some, b_X11_heard_49]
    · rw [e_X12_heard, b_X12_heard_0, c_isPlace (by omega) (by omega), qB_some, psh_some, b_X12_heard_6, zb_0, if_pos (by omega), b_X12_heard_9, c_within, qB_some, psh_some, b_X12_heard_20, zb_0, if_pos g.2, b_X12_heard_25, e1, qB_some, psh_none, b_X12_heard_29, e4, qB_some, psh_none, b_X12_heard_34]
      refine Eq.trans l3 ?_
      rw [b_X12_heard_104]
      by_cases z : w < 0
      · rw [if_pos z, if_pos z, b_X12_heard_108, b_X12_heard_114]
      · rw [if_neg z, if_neg z, b_X12_heard_113, b_X12_heard_114]
  · refine opW_no (r := -1) ?_ ?_
    · rw [e_X11_heard, b_X11_heard_0, c_hasPlace (by omega) (by omega), qB_some, psh_some, b_X11_heard_8, zb_0]
      by_cases g1 : 0 ≤ a ∧ a < 2 * v 11 0
      · rw [if_pos g1, b_X11_heard_11]
        by_cases g2 : w < -1
        · rw [if_pos g2, b_X11_heard_23]
        · rw [if_neg g2, b_X11_heard_16, if_pos (by omega), b_X11_heard_23]
      · rw [if_neg g1, b_X11_heard_23]
    · rw [e_X12_heard, b_X12_heard_0, c_isPlace (by omega) (by omega), qB_some, psh_some, b_X12_heard_6, zb_0, k1]
      by_cases g1 : 0 ≤ a ∧ a < 2 * v 11 0
      · rw [if_pos g1, b_X12_heard_9, c_within, qB_some, psh_some, b_X12_heard_20, zb_0, if_neg (by omega), b_X12_heard_23]
      · rw [if_neg g1, b_X12_heard_23]
end NX
