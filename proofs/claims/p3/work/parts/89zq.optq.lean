/-! SEEN: the reference; oneMan, where -/
section OTQ
variable {L : Nat} {xs : Nat → Int} {d : Nat} {v w : Nat → Nat → Int} {E : Nat → Nat → Int → Prop} {P K n : Nat} {q : Nat → Int}
theorem rowS_75 (h : rowS v K n q) (hw : ∀ c, c ≠ 75 → c ≠ 76 → w c = v c) : rowS w K n q := by
  have h1 := h.1
  unfold rowS szS at h ⊢
  rw [hw 53 (by omega) (by omega), hw 55 (by omega) (by omega), hw 86 (by omega) (by omega), hw 87 (by omega) (by omega), hw (57 + K) (by omega) (by omega), hw 88 (by omega) (by omega)]
  exact h
theorem m_seen (hP60 : P ≤ 60) (hT : Okg E P 99) : ∀ (m k : Nat) (v : Nat → Nat → Int) (u3 u5 : pm_V), n ≤ 2 * k + 2 * m → rowS v K n q → 2 * v 64 140 = (P : Int) → MH v E → (∀ j, j < k → 2 * j < n ∧ ¬ unl E P q n j) → ∃ v' r, qG L xs (d + 3) CX12_firstFalse 6 [(2, 63), (0, (K : Int)), (0, (k : Int)), u3, (9, 0), u5] [] (qS v) = some (some (0, r), qS v') ∧ (∀ c, c ≠ 75 → c ≠ 76 → v' c = v c) ∧ frs E P q n r
  | 0, k, v, u3, u5, hm, h, hY, hM, hj => by
    have hK := h.1
    have n60 := h.2.1
    have h87 := h.2.2.2.2.2.1
    by_cases k60 : 2 * k ≤ 200
    · refine ⟨v, -2, ?_, fun _ _ _ => rfl, Or.inl ⟨rfl, fun j hj2 => (hj j (by omega)).2⟩⟩
      rw [b_X12_firstFalse_6, if_pos (by omega), Int.toNat_natCast, h87, w32_id (by omega) (by omega), b_X12_firstFalse_15, if_neg (by omega), b_X12_firstFalse_148]
    · exact absurd (hj 60 (by omega)).1 (by omega)
  | m + 1, k, v, u3, u5, hm, h, hY, hM, hj => by
    have hK := h.1
    have n60 := h.2.1
    have h87 := h.2.2.2.2.2.1
    by_cases k60 : 2 * k ≤ 200
    · have w1 : w32 (2 * (k : Int)) = 2 * (k : Int) := w32_id (by omega) (by omega)
      by_cases z0 : 2 * k < n
      · have ret : ∀ (u : Nat → Nat → Int) (u3 u5 : pm_V), unl E P q n k → (∀ c, c ≠ 75 → c ≠ 76 → u c = v c) → (qG L xs (d + 3) CX12_firstFalse 6 [(2, 63), (0, (K : Int)), (0, (k : Int)), u3, (9, 0), u5] [] (qS v) = some (some (0, (k : Int)), qS u)) → ∃ v' r, qG L xs (d + 3) CX12_firstFalse 6 [(2, 63), (0, (K : Int)), (0, (k : Int)), u3, (9, 0), u5] [] (qS v) = some (some (0, r), qS v') ∧ (∀ c, c ≠ 75 → c ≠ 76 → v' c = v c) ∧ frs E P q n r := fun u u3 u5 hu hc he => ⟨u, (k : Int), he, hc, Or.inr ⟨k, rfl, z0, hu, fun j hj2 => (hj j hj2).2⟩⟩
        have st : qG L xs (d + 3) CX12_firstFalse 6 [(2, 63), (0, (K : Int)), (0, (k : Int)), u3, (9, 0), u5] [] (qS v) = if 2 * k + 1 < n then qG L xs (d + 3) CX12_firstFalse 32 [(2, 63), (0, (K : Int)), (0, (k : Int)), u3, (9, 0), u5] [] (qS v) else some (some (0, (k : Int)), qS v) := by
          rw [b_X12_firstFalse_6, if_pos (by omega), Int.toNat_natCast, h87, w1, b_X12_firstFalse_15, if_pos (by omega), b_X12_firstFalse_18, if_pos (by omega), Int.toNat_natCast, h87, w1, w32_id (z := 2 * (k : Int) + 1) (by omega) (by omega), b_X12_firstFalse_29]
          by_cases z : 2 * k + 1 < n
          · rw [if_pos (by omega), if_pos z]
          · rw [if_neg (by omega), if_neg z, b_X12_firstFalse_67]
        clear w1
        by_cases z1 : 2 * k + 1 < n
        · have ra := h.2.2.2.2.2.2 (2 * k + 1) (by omega)
          have rd := h.2.2.2.2.2.2 (2 * k) (by omega)
          have i1 : ∀ u, rowS u K n q → qE L xs (d + 3) nX12_itemAt [(2, 63), (0, (K : Int)), (0, w32 (2 * (k : Int)))] (qS u) = some (some (1, q (2 * k)), qS u) := fun u hu => by
            have := rowS_item (L := L) (xs := xs) (d := d + 2) hu (i := 2 * k) (by omega)
            rw [w32_id (by omega) (by omega), show 2 * (k : Int) = ((2 * k : Nat) : Int) by omega]
            exact this
          have i2 : qE L xs (d + 3) nX12_itemAt [(2, 63), (0, (K : Int)), (0, w32 (w32 (2 * (k : Int)) + 1))] (qS v) = some (some (1, q (2 * k + 1)), qS v) := by
            have := rowS_item (L := L) (xs := xs) (d := d + 2) h (i := 2 * k + 1) z1
            rw [w32_id (z := 2 * (k : Int)) (by omega) (by omega), w32_id (by omega) (by omega), show 2 * (k : Int) + 1 = ((2 * k + 1 : Nat) : Int) by omega]
            exact this
          have ip : qE L xs (d + 3) nX12_isPlace [(2, 63), (1, q (2 * k))] (qS v) = some (some (0, zb (0 ≤ q (2 * k) ∧ q (2 * k) < 2 * v 64 140)), qS v) := c_isPlace (d := d + 1) (by omega) (by omega) _
          have iw : qE L xs (d + 3) nX12_within [(1, q (2 * k + 1)), (1, 0), (1, 9999)] (qS v) = some (some (0, zb (0 ≤ q (2 * k + 1) ∧ q (2 * k + 1) ≤ 9999)), qS v) := c_within (d := d + 2) _ _ _
          rw [if_pos z1, b_X12_firstFalse_32, i1 v h, qB_some, psh_some, b_X12_firstFalse_41, ip, qB_some, psh_some, b_X12_firstFalse_44, zb_0] at st
          by_cases z2 : 0 ≤ q (2 * k) ∧ q (2 * k) < (P : Int)
          · rw [if_pos (by omega), b_X12_firstFalse_47, i2, qB_some, psh_some, b_X12_firstFalse_57, iw, qB_some, psh_some, b_X12_firstFalse_64, zb_0] at st
            by_cases z3 : 0 ≤ q (2 * k + 1) ∧ q (2 * k + 1) ≤ 9999
            · rw [if_pos z3, b_X12_firstFalse_69] at st
              have nx : ∀ (u : Nat → Nat → Int) (w3 w5 : pm_V), ¬ unl E P q n k → (∀ c, c ≠ 75 → c ≠ 76 → u c = v c) → ∃ v' r, qG L xs (d + 3) CX12_firstFalse 142 [(2, 63), (0, (K : Int)), (0, (k : Int)), w3, (9, 0), w5] [] (qS u) = some (some (0, r), qS v') ∧ (∀ c, c ≠ 75 → c ≠ 76 → v' c = v c) ∧ frs E P q n r := fun u w3 w5 hu hc => by
                obtain ⟨v', r, e1, e2, e3⟩ := m_seen hP60 hT m (k + 1) u w3 w5 (by omega) (rowS_75 h hc) (by rw [hc 64 (by omega) (by omega)]; exact hY) (MH_cg (hc 74 (by omega) (by omega)) hM) (fun j hj2 => by
                  by_cases y : j = k
                  · rw [y]
                    exact ⟨z0, hu⟩
                  · exact hj j (by omega))
                refine ⟨v', r, ?_, fun c a a2 => (e2 c a a2).trans (hc c a a2), e3⟩
                rw [b_X12_firstFalse_142, w32_id (by omega) (by omega), show (k : Int) + 1 = ((k + 1 : Nat) : Int) by omega]
                exact e1
              by_cases z4 : 0 < k
              · have pv := (hj (k - 1) (by omega)).2
                have pv2 : 0 ≤ q (2 * k - 2) ∧ q (2 * k - 2) < (P : Int) := by
                  unfold unl at pv
                  rw [show 2 * (k - 1) = 2 * k - 2 by omega] at pv
                  omega
                have rb := h.2.2.2.2.2.2 (2 * k - 1) (by omega)
                have rc := h.2.2.2.2.2.2 (2 * k - 2) (by omega)
                obtain ⟨s, hs⟩ : ∃ s : Nat, q (2 * k - 2) = (s : Int) := ⟨(q (2 * k - 2)).toNat, by omega⟩
                obtain ⟨p, hp⟩ : ∃ p : Nat, q (2 * k) = (p : Int) := ⟨(q (2 * k)).toNat, by omega⟩
                have i3 : qE L xs (d + 3) nX12_itemAt [(2, 63), (0, (K : Int)), (0, w32 (w32 (2 * (k : Int)) - 1))] (qS v) = some (some (1, q (2 * k - 1)), qS v) := by
                  have := rowS_item (L := L) (xs := xs) (d := d + 2) h (i := 2 * k - 1) (by omega)
                  rw [w32_id (z := 2 * (k : Int)) (by omega) (by omega), w32_id (by omega) (by omega), show 2 * (k : Int) - 1 = ((2 * k - 1 : Nat) : Int) by omega]
                  exact this
                have i4 : qE L xs (d + 3) nX12_itemAt [(2, 63), (0, (K : Int)), (0, w32 (w32 (2 * (k : Int)) - 2))] (qS v) = some (some (1, q (2 * k - 2)), qS v) := by
                  have := rowS_item (L := L) (xs := xs) (d := d + 2) h (i := 2 * k - 2) (by omega)
                  rw [w32_id (z := 2 * (k : Int)) (by omega) (by omega), w32_id (by omega) (by omega), show 2 * (k : Int) - 2 = ((2 * k - 2 : Nat) : Int) by omega]
                  exact this
                obtain ⟨u, r, e1, e2, e3⟩ := m_wayFrom (L := L) (xs := xs) (d := d) (s := s) (p := p) hP60 hY hT hM (by omega) (by omega)
                have t := Lst_t e3 (q (2 * k + 1) - q (2 * k - 1)) (Or.inr rfl)
                have rr : r = -2 ∨ (0 ≤ r ∧ r ≤ 5841) := by
                  rcases e3 with ⟨y, y2, -⟩ | ⟨y, -⟩
                  · exact Or.inr ⟨y, y2⟩
                  · exact Or.inl y
                have hI : inT E q k ↔ ∃ m z, Wk E m s p z ∧ z ≤ q (2 * k + 1) - q (2 * k - 1) := by
                  unfold inT
                  rw [hs, hp]
                  exact Iff.rfl
                have ws : w32 (q (2 * k - 2)) = (s : Int) := by rw [w32_id (by omega) (by omega)]; exact hs
                have wp : w32 (q (2 * k)) = (p : Int) := by rw [w32_id (by omega) (by omega)]; exact hp
                rw [if_pos (by omega), b_X12_firstFalse_73, i2, qB_some, psh_some, b_X12_firstFalse_83, i3, qB_some, psh_some, b_X12_firstFalse_93, i4, qB_some, psh_some, b_X12_firstFalse_106, i1 v h, qB_some, psh_some, b_X12_firstFalse_115, ws, wp, e1, qB_some, psh_some, b_X12_firstFalse_119, w64_id (by omega) (by omega), lc_lt] at st
                clear ws wp i1 i2 i3 i4
                have tru : ¬ inT E q k → unl E P q n k := fun y => Or.inr (Or.inr (Or.inr ⟨z4, y⟩))
                by_cases z5 : q (2 * k + 1) - q (2 * k - 1) < 0
                · rw [if_pos z5, b_X12_firstFalse_140] at st
                  refine ret u _ _ (tru (fun y => ?_)) e2 st
                  have := t.mpr (hI.mp y)
                  omega
                · rw [if_neg z5, b_X12_firstFalse_127] at st
                  by_cases z6 : r < 0
                  · rw [if_pos z6, b_X12_firstFalse_140] at st
                    refine ret u _ _ (tru (fun y => ?_)) e2 st
                    have := t.mpr (hI.mp y)
                    omega
                  · rw [if_neg z6, b_X12_firstFalse_132, lc_gt] at st
                    by_cases z7 : q (2 * k + 1) - q (2 * k - 1) < r
                    · rw [if_pos z7, b_X12_firstFalse_140] at st
                      refine ret u _ _ (tru (fun y => ?_)) e2 st
                      have := t.mpr (hI.mp y)
                      omega
                    · rw [if_neg z7] at st
                      rw [st]
                      have it : inT E q k := hI.mpr (t.mp ⟨by omega, by omega, by omega⟩)
                      refine nx u _ _ (fun t => ?_) e2
                      rcases t with t | t | t | t
                      · omega
                      · exact t z2
                      · exact t z3
                      · exact t.2 it
              · rw [if_neg (by omega)] at st
                rw [st]
                refine nx v _ _ (fun t => ?_) (fun _ _ _ => rfl)
                rcases t with t | t | t | t
                · omega
                · exact t z2
                · exact t z3
                · exact z4 t.1
            · rw [if_neg z3, b_X12_firstFalse_67] at st
              exact ret v _ _ (Or.inr (Or.inr (Or.inl z3))) (fun _ _ _ => rfl) st
          · rw [if_neg (by omega), b_X12_firstFalse_67] at st
            exact ret v _ _ (Or.inr (Or.inl z2)) (fun _ _ _ => rfl) st
        · rw [if_neg z1] at st
          exact ret v _ _ (Or.inl (by omega)) (fun _ _ _ => rfl) st
      · refine ⟨v, -2, ?_, fun _ _ _ => rfl, Or.inl ⟨rfl, fun j hj2 => (hj j (by omega)).2⟩⟩
        rw [b_X12_firstFalse_6, if_pos (by omega), Int.toNat_natCast, h87, w1, b_X12_firstFalse_15, if_neg (by omega), b_X12_firstFalse_148]
    · exact absurd (hj 60 (by omega)).1 (by omega)
/-- why a row can't be had -/
def rfR (v : Nat → Nat → Int) (a : Int) : Int := if 0 ≤ a ∧ a < 6 then (if v 53 a.toNat = -1 then -11 else if v 53 a.toNat = 1 then 0 else -12) else -1
theorem k_refusalOfRow (a : Int) : qE L xs (d + 3) nX8_refusalOfRow [(2, 52), (0, a), (0, 1)] (qS v) = some (some (0, rfR v a), qS v) := by
  unfold rfR
  by_cases g : 0 ≤ a ∧ a < 6
  · obtain ⟨K, rfl⟩ : ∃ K : Nat, a = (K : Int) := ⟨a.toNat, by omega⟩
    rw [if_pos g, Int.toNat_natCast]
    exact cr_refusalOfRow K (by omega) 1 (by decide)
  · rw [if_neg g, e_X8_refusalOfRow, b_X8_refusalOfRow_0, cs_has, qB_some, psh_some, b_X8_refusalOfRow_4, zb_0, if_neg g, b_X8_refusalOfRow_7]
theorem m_shortsIs (h : rlR v) (a : Int) : qE L xs (d + 3) nX12_shortsIs [(2, 63), (0, a)] (qS v) = some (some (0, if rfR v a = 0 then 1 else rfR v a), qS v) := by
  have hS := h.2.2.2.2.2.2.2.1
  have hB := h.2.2.2.2.2.2.1.1
  rw [e_X12_shortsIs, b_X12_shortsIs_0, ms_isShelf, qB_some, psh_some, b_X12_shortsIs_4, zb_0]
  unfold rfR
  by_cases g : 0 ≤ a ∧ a < 6
  · obtain ⟨K, rfl⟩ : ∃ K : Nat, a = (K : Int) := ⟨a.toNat, by omega⟩
    obtain ⟨m1, m2, m3⟩ := mS_at hS hB.2 K (by omega)
    rw [if_pos g, if_pos g, b_X12_shortsIs_11, if_pos g, b_X12_shortsIs_17, Int.toNat_natCast]
    by_cases g1 : v 53 K = -1
    · have := m1.mpr g1
      rw [if_pos this, b_X12_shortsIs_20, b_X12_shortsIs_42, if_pos g1, if_neg (by decide)]
    · have g2 : ¬ v 86 K < 0 := fun t => g1 (m1.mp t)
      rw [if_neg g2, b_X12_shortsIs_25, if_pos g, Int.toNat_natCast, b_X12_shortsIs_31, if_neg g1]
      by_cases g3 : v 53 K = 1
      · have := (m3 (by omega)).1
        rw [if_pos (show v 86 K = 51 by omega), b_X12_shortsIs_36, b_X12_shortsIs_42, if_pos g3, if_pos rfl]
      · have : ¬ v 86 K = 51 := fun t => by
          by_cases y : 0 ≤ v 53 K
          · have := (m3 y).1
            omega
          · have := m2.mpr (by omega)
            omega
        rw [if_neg this, b_X12_shortsIs_40, b_X12_shortsIs_42, if_neg g3, if_neg (by decide)]
  · rw [if_neg g, if_neg g, b_X12_shortsIs_7, b_X12_shortsIs_42, if_neg (by decide)]
theorem rl_rowS (h : rlR v) (hK : K < 6) (g : v 53 K = 1) : ∃ n q, rowS v K n q := by
  have hS := h.2.2.2.2.2.2.2.1 K hK
  obtain ⟨q1, q2, q3, q4⟩ := hS
  obtain ⟨a1, a2, a3, a4⟩ := q4 (by omega)
  refine ⟨(v 55 K).toNat, v (57 + K), hK, by omega, g, ?_, by omega, by omega, fun i hi => ?_⟩
  · unfold szS
    rw [if_neg (by omega)]
    omega
  · have b := a4 i hi
    have c := b.2.2.1 g
    exact ⟨rfl, b.1, c.1, c.2⟩
/-- the class lays its ways and looks for the first two that can't be -/
theorem k_lookS (h : rlR v) (hr : rowS v K n q) (hP : 2 * v 11 0 = (P : Int)) : ∃ v1 v2 r S, qE L xs (d + 10) nX10_lay [(2, 29), (2, 1), (2, 23)] (qS v) = some (none, qS v1) ∧ qE L xs (d + 10) nX7_firstUnlikely [(2, 52), (0, (K : Int)), (2, 29)] (qS v1) = some (some (0, r), qS v2) ∧ fW v v2 ∧ WOK v2 S P ∧ EC v2 S (-1) = SG v (lwC v) (-1) (-1) (-1) ∧ frs (SG v (lwC v) (-1) (-1) (-1)) P q n r := by
  obtain ⟨hW, hC, hM, hN, h5, h6, h7⟩ := rl_Wz (L := L) (xs := xs) h
  obtain ⟨v1, S, e1, l2, l3⟩ := c_lay (L := L) (xs := xs) (d := d) hW hP hM
  obtain ⟨v2, r, e2, e3, e4⟩ := k_firstUnlikely (L := L) (xs := xs) (d := d + 3) (rowS_W hr l2) (rlS_W h.2.2.2.2.2.2.2.1 l2) l3.1 (EC_all hW l3)
  refine ⟨v1, v2, r, S, e1, e2, fW_t l2 (fW_own (fun c hc => e3 c (by omega))), WOK_cg e3 l3.1, ?_, e4⟩
  rw [← EC_all hW l3]
  unfold EC
  rw [e3 30 (by omega), e3 31 (by omega), e3 32 (by omega), e3 33 (by omega)]
/-- the reference, likewise -/
theorem m_lookS (h : rlR v) (hr : rowS v K n q) (hP : 2 * v 11 0 = (P : Int)) : ∃ v2 r, qE L xs (d + 93) nX12_firstFalse [(2, 63), (0, (K : Int))] (qS v) = some (some (0, r), qS v2) ∧ fP v v2 ∧ MH v2 (SG v (lwC v) (-1) (-1) (-1)) ∧ Okg (SG v (lwC v) (-1) (-1) (-1)) P 99 ∧ frs (SG v (lwC v) (-1) (-1) (-1)) P q n r := by
  obtain ⟨hW, hC, hM, hN, h5, h6, h7⟩ := rl_Wz (L := L) (xs := xs) h
  have hLL := rW_L h.1
  have hML := rM_L h.1
  obtain ⟨v1, e1, e2, e3⟩ := m_asks (L := L) (xs := xs) (d := d) hW hC hN h5 h6 h7 (by omega)
  have hT : Okg (SG v (lwC v) (-1) (-1) (-1)) P 99 := SG_ok hW lwC_b hP (by omega)
  have hr1 : rowS v1 K n q := by
    have hK := hr.1
    unfold rowS szS at hr ⊢
    rw [e2.1 53 (by omega) (by omega) (by omega), e2.1 55 (by omega) (by omega) (by omega), e2.1 86 (by omega) (by omega) (by omega), e2.1 87 (by omega) (by omega) (by omega), e2.1 (57 + K) (by omega) (by omega) (by omega), e2.1 88 (by omega) (by omega) (by omega)]
    exact hr
  have n60 := hr.2.1
  obtain ⟨v2, r, f1, f2, f3⟩ := m_seen (L := L) (xs := xs) (d := d + 89) (P := P) (by omega) hT 60 0 v1 (9, 0) (9, 0) (by omega) hr1 (by rw [e2.1 64 (by omega) (by omega) (by omega)]; omega) e3 (fun j hj => absurd hj (Nat.not_lt_zero j))
  refine ⟨v2, r, ?_, fP_t (fA_P e2) (fP_75 f2), MH_cg (f2 74 (by omega) (by omega)) e3, hT, f3⟩
  rw [show d + 93 = d + 92 + 1 from rfl, e_X12_firstFalse, b_X12_firstFalse_0, e1, qB_some, psh_none, b_X12_firstFalse_4]
  exact f1
theorem opr_oneMan (h : rlR v) (a : Int) : opR L xs v nX11_oneMan nX12_oneMan 0 [(0, a)] := by
  by_cases g : rfR v a = 0
  · have g2 : (0 ≤ a ∧ a < 6) ∧ v 53 a.toNat = 1 := by
      unfold rfR at g
      by_cases y : 0 ≤ a ∧ a < 6
      · rw [if_pos y] at g
        by_cases y2 : v 53 a.toNat = -1
        · rw [if_pos y2] at g
          omega
        · rw [if_neg y2] at g
          by_cases y3 : v 53 a.toNat = 1
          · exact ⟨y, y3⟩
          · rw [if_neg y3] at g
            omega
      · rw [if_neg y] at g
        omega
    obtain ⟨K, rfl⟩ : ∃ K : Nat, a = (K : Int) := ⟨a.toNat, by omega⟩
    rw [Int.toNat_natCast] at g2
    obtain ⟨n, q, hr⟩ := rl_rowS h (show K < 6 by omega) g2.2
    have hLL := rW_L h.1
    obtain ⟨P, hP⟩ : ∃ P : Nat, 2 * v 11 0 = (P : Int) := ⟨(2 * v 11 0).toNat, by omega⟩
    obtain ⟨v1, v2, r, S, e1, e2, e3, e4, e5, e6⟩ := k_lookS (L := L) (xs := xs) (d := 989) h hr hP
    have hr2 := rowS_W hr e3
    have h2 := rlR_fW e3 h
    have hP2 : 2 * v2 11 0 = (P : Int) := by rw [fW_c e3 (c := 11) (by omega)]; exact hP
    obtain ⟨v3, r3, f1, f2, f3, f4, f5⟩ := m_lookS (L := L) (xs := xs) (d := 906) h2 hr2 hP2
    have lw : lwC v2 = lwC v := by
      funext y s u
      unfold lwC lwN
      rw [fW_c e3 (c := 63) (by omega), fW_c e3 (c := 72) (by omega), fW_c e3 (c := 3) (by omega), fW_c e3 (c := 4) (by omega), fW_c e3 (c := 5) (by omega)]
    rw [SG_W e3, lw] at f5
    have := frs_one e6 f5
    subst this
    refine ⟨r, v2, v3, ?_, ?_, rlR_fP f2 h2⟩
    · rw [e_X11_oneMan, b_X11_oneMan_0, show (999 : Nat) = 996 + 3 from rfl, k_refusalOfRow, g, qB_some, psh_some, b_X11_oneMan_9, if_pos rfl, b_X11_oneMan_16, show 996 + 3 = 989 + 10 from rfl, e1, qB_some, psh_none, b_X11_oneMan_31, e2, qB_some, psh_some, b_X11_oneMan_43]
    · have g3 : rfR v2 (K : Int) = 0 := by
        unfold rfR
        rw [fW_c e3 (c := 53) (by omega)]
        exact g
      rw [e_X12_oneMan, b_X12_oneMan_0, show (999 : Nat) = 996 + 3 from rfl, m_shortsIs h2, g3, if_pos rfl, qB_some, psh_some, b_X12_oneMan_5, if_neg (by decide), b_X12_oneMan_16, show 996 + 3 = 906 + 93 from rfl, f1, qB_some, psh_some, b_X12_oneMan_21]
  · have g2 : rfR v a < 0 := by
      unfold rfR at g ⊢
      by_cases y : 0 ≤ a ∧ a < 6
      · rw [if_pos y] at g ⊢
        by_cases y2 : v 53 a.toNat = -1
        · rw [if_pos y2]
          decide
        · rw [if_neg y2] at g ⊢
          by_cases y3 : v 53 a.toNat = 1
          · rw [if_pos y3] at g
            omega
          · rw [if_neg y3]
            decide
      · rw [if_neg y]
        decide
    refine opR_no (r := rfR v a) h ?_ ?_
    · rw [e_X11_oneMan, b_X11_oneMan_0, show (999 : Nat) = 996 + 3 from rfl, k_refusalOfRow, qB_some, psh_some, b_X11_oneMan_9, if_neg g, b_X11_oneMan_14]
    · rw [e_X12_oneMan, b_X12_oneMan_0, show (999 : Nat) = 996 + 3 from rfl, m_shortsIs h, if_neg g, qB_some, psh_some, b_X12_oneMan_5, if_pos g2, b_X12_oneMan_8, m_shortsIs h, if_neg g, qB_some, psh_some, b_X12_oneMan_13, b_X12_oneMan_21]
end OTQ
