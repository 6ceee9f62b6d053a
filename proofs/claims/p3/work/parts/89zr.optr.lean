/-! where: both end, and the relation is kept (the answers may differ: STATE or 0) -/
section OTR
variable {L : Nat} {xs : Nat → Int} {d : Nat} {v w : Nat → Nat → Int} {E : Nat → Nat → Int → Prop} {P K n : Nat} {q : Nat → Int}
/-- both end, and the relation is kept -/
def opE (L : Nat) (xs : Nat → Int) (v : Nat → Nat → Int) (y1 y2 t : Nat) (as : List pm_V) : Prop := ∃ r1 r2 v1 v2, qE L xs 1000 y1 ((2, 0) :: as) (qS v) = some (some (t, r1), qS v1) ∧ qE L xs 1000 y2 ((2, 63) :: as) (qS v1) = some (some (t, r2), qS v2) ∧ rlR v2
theorem k_lastMinute (h : rowS v K n q) (hS : rlS v) : ∃ z : Int, qE L xs (d + 6) nX7_lastMinute [(2, 52), (0, (K : Int))] (qS v) = some (some (0, z), qS v) := by
  have hK := h.1
  have n60 := h.2.1
  rw [show d + 6 = d + 2 + 3 + 1 from rfl, e_X7_lastMinute, b_X7_lastMinute_0, cr_sizeOf K h.1, h.2.2.2.1, qB_some, psh_some, b_X7_lastMinute_5]
  by_cases g : Int.tmod (n : Int) 2 = 0
  · rw [if_pos g, b_X7_lastMinute_12, w32_id (by omega) (by omega)]
    by_cases g2 : n = 0
    · have e : qE L xs (d + 2 + 3) nX8_get [(2, 52), (0, (K : Int)), (0, (n : Int) - 1)] (qS v) = some (some (1, 0), qS v) := by
        rw [show d + 2 + 3 = d + 4 + 1 from rfl, e_X8_get, b_X8_get_0, cr_hasElements hS K hK _ 1 (by omega) (by decide), qB_some, psh_some, b_X8_get_7, zb_0, if_neg (by omega), b_X8_get_21, b_X8_get_22]
      rw [e, qB_some, psh_some, b_X7_lastMinute_20, b_X7_lastMinute_25]
      exact ⟨_, rfl⟩
    · have e := rowS_get (L := L) (xs := xs) (d := d) h hS (i := n - 1) (by omega)
      rw [show ((n - 1 : Nat) : Int) = (n : Int) - 1 by omega] at e
      rw [show d + 2 + 3 = d + 5 from rfl, e, qB_some, psh_some, b_X7_lastMinute_20, b_X7_lastMinute_25]
      exact ⟨_, rfl⟩
  · rw [if_neg g, b_X7_lastMinute_24, b_X7_lastMinute_25]
    exact ⟨_, rfl⟩
/-- where there is no two that can't be, and there are twos, the last one's place is there -/
theorem frs_last (hn : 0 < n) (h : frs E P q n (-2)) : ∃ k, n = 2 * k + 2 ∧ 0 ≤ q (2 * k) ∧ q (2 * k) < (P : Int) := by
  rcases h with ⟨-, h⟩ | ⟨k, h, -⟩
  · have a := h ((n - 1) / 2) (by omega)
    unfold unl at a
    refine ⟨(n - 1) / 2, by omega, by omega, by omega⟩
  · omega
theorem k_lastPlace (h : rowS v K n q) (hS : rlS v) {k : Nat} (hk : n = 2 * k + 2) : qE L xs (d + 6) nX7_lastPlace [(2, 52), (0, (K : Int))] (qS v) = some (some (0, q (2 * k)), qS v) := by
  have n60 := h.2.1
  have rk := h.2.2.2.2.2.2 (2 * k) (by omega)
  have e := rowS_get (L := L) (xs := xs) (d := d) h hS (i := 2 * k) (by omega)
  rw [show d + 6 = d + 2 + 3 + 1 from rfl, e_X7_lastPlace, b_X7_lastPlace_0, cr_sizeOf K h.1, h.2.2.2.1, qB_some, psh_some, b_X7_lastPlace_7, show Int.tdiv (n : Int) 2 = (k : Int) + 1 by rw [Int.tdiv_eq_ediv_of_nonneg (by omega)]; omega, w32_id (z := (k : Int) + 1) (by omega) (by omega), w32_id (z := ((k : Int) + 1) * 2) (by omega) (by omega), w32_id (by omega) (by omega), show ((k : Int) + 1) * 2 - 2 = ((2 * k : Nat) : Int) by omega, show d + 2 + 3 = d + 5 from rfl, e, qB_some, psh_some, b_X7_lastPlace_16, w32_id (by omega) (by omega)]
theorem lp_mwhere (hr : rowS v K n q) (hn : 0 < n) (hY : 2 * v 64 140 = (P : Int)) (hP60 : P ≤ 60) (m x3 : Int) : ∀ (j i : Nat) (s : Int) (u7 : pm_V), i + j = P → ∃ r, qG L xs (d + 1) CX12_where 134 [(2, 63), (0, (K : Int)), (0, m), (0, x3), (0, (n : Int)), (0, s), (0, (i : Int)), u7] [] (qS v) = some (some (0, r), qS v)
  | 0, i, s, u7, hj => by
    refine ⟨s, ?_⟩
    rw [b_X12_where_134, c_yardMany, qB_some, psh_some, b_X12_where_141, w32_id (by omega) (by omega), if_neg (by omega), b_X12_where_207]
  | j + 1, i, s, u7, hj => by
    have n60 := hr.2.1
    have e := rowS_item (L := L) (xs := xs) (d := d) hr (i := n - 1) (by omega)
    rw [show ((n - 1 : Nat) : Int) = (n : Int) - 1 by omega] at e
    have nx : ∀ (s : Int) (x7 : Int), ∃ r, qG L xs (d + 1) CX12_where 134 [(2, 63), (0, (K : Int)), (0, m), (0, x3), (0, (n : Int)), (0, s), (0, w32 ((i : Int) + 1)), (0, x7)] [] (qS v) = some (some (0, r), qS v) := fun s x7 => by
      rw [w32_id (by omega) (by omega), show (i : Int) + 1 = ((i + 1 : Nat) : Int) by omega]
      exact lp_mwhere hr hn hY hP60 m x3 j (i + 1) s _ (by omega)
    have s97 : ∀ x7 : Int, ∃ r, qG L xs (d + 1) CX12_where 197 [(2, 63), (0, (K : Int)), (0, m), (0, x3), (0, (n : Int)), (0, s), (0, (i : Int)), (0, x7)] [(0, s)] (qS v) = some (some (0, r), qS v) := fun x7 => by
      rw [b_X12_where_197, b_X12_where_198]
      exact nx _ _
    have s93 : ∀ x7 : Int, ∃ r, qG L xs (d + 1) CX12_where 193 [(2, 63), (0, (K : Int)), (0, m), (0, x3), (0, (n : Int)), (0, s), (0, (i : Int)), (0, x7)] [(0, s)] (qS v) = some (some (0, r), qS v) := fun x7 => by
      rw [b_X12_where_193, b_X12_where_198]
      exact nx _ _
    have s74 : ∀ y : Int, ∃ r, qG L xs (d + 1) CX12_where 174 [(2, 63), (0, (K : Int)), (0, m), (0, x3), (0, (n : Int)), (0, s), (0, (i : Int)), u7] [(0, y)] (qS v) = some (some (0, r), qS v) := fun y => by
      rw [b_X12_where_174]
      by_cases z : y = 0
      · rw [if_pos z]
        exact s97 _
      · rw [if_neg z, b_X12_where_183]
        by_cases z2 : x3 < 0
        · rw [if_pos z2]
          exact s93 _
        · rw [if_neg z2, b_X12_where_187]
          by_cases z3 : x3 = (i : Int)
          · rw [if_pos z3]
            exact s93 _
          · rw [if_neg z3]
            exact s97 _
    rw [b_X12_where_134, c_yardMany, qB_some, psh_some, b_X12_where_141, w32_id (z := 2 * v 64 140) (by omega) (by omega), if_pos (by omega), b_X12_where_145, if_pos (by omega), Int.toNat_natCast, b_X12_where_152, w32_id (z := (n : Int) - 1) (by omega) (by omega), e, qB_some, psh_some, b_X12_where_164, lc_gt]
    generalize w64 (m - q (n - 1)) = z0
    by_cases z : z0 < v 75 i
    · rw [if_pos z, b_X12_where_173]
      exact s74 _
    · rw [if_neg z, b_X12_where_169]
      exact s74 _
/-- the class, where the shelf holds a row of shorts and m and place are as said -/
theorem k_where (h : rlR v) (hr : rowS v K n q) (m x : Int) (hm : 0 ≤ m ∧ m ≤ 9999) (hx : x = -1 ∨ (0 ≤ x ∧ x < 2 * v 11 0)) : ∃ r v1, qG L xs 999 CX11_where 48 [(2, 0), (0, (K : Int)), (0, m), (0, x), (0, 0), (9, 0), (9, 0)] [] (qS v) = some (some (0, r), qS v1) ∧ fW v v1 := by
  have hK := hr.1
  have n60 := hr.2.1
  have hLL := rW_L h.1
  obtain ⟨P, hP⟩ : ∃ P : Nat, 2 * v 11 0 = (P : Int) := ⟨(2 * v 11 0).toNat, by omega⟩
  obtain ⟨z, e0⟩ := k_lastMinute (L := L) (xs := xs) (d := 993) hr h.2.2.2.2.2.2.2.1
  obtain ⟨v1, v2, r, S, e1, e2, e3, e4, e5, e6⟩ := k_lookS (L := L) (xs := xs) (d := 989) h hr hP
  rw [b_X11_where_48, show (999 : Nat) = 993 + 6 from rfl, e0, qB_some, psh_some, b_X11_where_57]
  generalize w32 (m - z) = x5
  by_cases g1 : x5 < 0
  · rw [if_pos g1, b_X11_where_65]
    exact ⟨_, _, rfl, fW_r v⟩
  · rw [if_neg g1, b_X11_where_68, show 993 + 6 = 989 + 10 from rfl, e1, qB_some, psh_none, b_X11_where_83, e2, qB_some, psh_some, b_X11_where_95]
    by_cases g2 : r = -2
    · have hr2 := rowS_W hr e3
      have hS2 := rlS_W h.2.2.2.2.2.2.2.1 e3
      rw [if_pos g2, b_X11_where_102, show 989 + 10 = 996 + 3 from rfl, cr_sizeOf K hK, hr2.2.2.2.1, qB_some, psh_some, b_X11_where_110]
      by_cases g3 : (n : Int) = 0
      · rw [if_pos g3, b_X11_where_113]
        by_cases g4 : x = -1
        · rw [if_pos g4, b_X11_where_118, show 996 + 3 = 997 + 2 from rfl, c_placesNow (by rw [fW_c e3 (c := 11) (by omega)]; omega) (by rw [fW_c e3 (c := 11) (by omega)]; omega), qB_some, psh_some, b_X11_where_125, b_X11_where_129]
          exact ⟨_, _, rfl, e3⟩
        · rw [if_neg g4, b_X11_where_128, b_X11_where_129]
          exact ⟨_, _, rfl, e3⟩
      · rw [g2] at e6
        obtain ⟨k, k1, k2, k3⟩ := frs_last (by omega) e6
        obtain ⟨s, hs⟩ : ∃ s : Nat, q (2 * k) = (s : Int) := ⟨(q (2 * k)).toNat, by omega⟩
        obtain ⟨v3, f1, f2, f3⟩ := c_from (L := L) (xs := xs) (d := 996) e4 e5 (show s < P by omega)
        have hw3 : fW v v3 := fW_t e3 (fW_own (fun c hc => f2 c (by omega)))
        rw [if_neg g3, b_X11_where_130, show 996 + 3 = 993 + 6 from rfl, k_lastPlace hr2 hS2 k1, qB_some, psh_some, b_X11_where_142, hs, show 993 + 6 = 996 + 3 from rfl, f1, qB_some, psh_none, b_X11_where_146]
        have w3 := WOK_cg f2 e4
        by_cases g4 : x = -1
        · rw [if_pos g4, b_X11_where_161, show 996 + 3 = 998 + 1 from rfl, c_count _ rfl w3.2.2.1 (by omega), qB_some, psh_some, b_X11_where_170]
          exact ⟨_, _, rfl, hw3⟩
        · obtain ⟨p, hp⟩ : ∃ p : Nat, x = (p : Int) := ⟨x.toNat, by omega⟩
          rw [if_neg g4, b_X11_where_171, hp, show 996 + 3 = 997 + 2 from rfl, c_minutes w3 (show p < P by omega), qB_some, psh_some, b_X11_where_179]
          by_cases g5 : pm_min x5 9998 < v3 34 p
          · rw [if_pos g5, b_X11_where_188, b_X11_where_189]
            exact ⟨_, _, rfl, hw3⟩
          · rw [if_neg g5, b_X11_where_184, b_X11_where_189]
            exact ⟨_, _, rfl, hw3⟩
    · rw [if_neg g2, b_X11_where_100]
      exact ⟨_, _, rfl, e3⟩
/-- the reference, likewise -/
theorem m_where (h : rlR v) (hr : rowS v K n q) (m x : Int) : ∃ r v1, qG L xs 999 CX12_where 51 [(2, 63), (0, (K : Int)), (0, m), (0, x), (9, 0), (9, 0), (9, 0), (9, 0)] [] (qS v) = some (some (0, r), qS v1) ∧ fP v v1 := by
  have hK := hr.1
  have n60 := hr.2.1
  have hLL := rW_L h.1
  have hML := rM_L h.1
  obtain ⟨P, hP⟩ : ∃ P : Nat, 2 * v 11 0 = (P : Int) := ⟨(2 * v 11 0).toNat, by omega⟩
  obtain ⟨v2, r, e1, e2, e3, e4, e5⟩ := m_lookS (L := L) (xs := xs) (d := 906) h hr hP
  have hr2 : rowS v2 K n q := by
    have n := e2.1
    unfold rowS szS at hr ⊢
    rw [fN_c n (c := 53) (by omega), fN_c n (c := 55) (by omega), fN_c n (c := 86) (by omega), fN_c n (c := 87) (by omega), fN_c n (c := 57 + K) (by omega), fN_c n (c := 88) (by omega)]
    exact hr
  have h87 := hr2.2.2.2.2.2.1
  have k2 : 2 * v2 64 140 = (P : Int) := by rw [fN_c e2.1 (c := 64) (by omega)]; omega
  rw [b_X12_where_51, show (999 : Nat) = 906 + 93 from rfl, e1, qB_some, psh_some, b_X12_where_56]
  by_cases g2 : r = -2
  · rw [g2] at e5
    rw [if_pos g2, b_X12_where_63, if_pos (by omega), Int.toNat_natCast, h87, b_X12_where_69]
    by_cases g3 : 0 < n
    · obtain ⟨k, k1, k3, k4⟩ := frs_last g3 e5
      obtain ⟨s, hs⟩ : ∃ s : Nat, q (2 * k) = (s : Int) := ⟨(q (2 * k)).toNat, by omega⟩
      obtain ⟨v3, f1, f2, f3⟩ := m_from (L := L) (xs := xs) (d := 997) (by omega) k2 e4 e3 (show s < P by omega)
      have i1 := rowS_item (L := L) (xs := xs) (d := 998) hr2 (i := n - 1) (by omega)
      rw [show ((n - 1 : Nat) : Int) = (n : Int) - 1 by omega] at i1
      have i2 := rowS_item (L := L) (xs := xs) (d := 998) hr2 (i := 2 * k) (by omega)
      rw [show ((2 * k : Nat) : Int) = (n : Int) - 2 by omega, hs] at i2
      obtain ⟨r2, lp⟩ := lp_mwhere (L := L) (xs := xs) (d := 998) (rowS_75 hr2 f2) g3 (by rw [f2 64 (by omega) (by omega)]; exact k2) (by omega) m x P 0 0 (9, 0) (by omega)
      rw [if_pos (by omega), b_X12_where_76, w32_id (z := (n : Int) - 1) (by omega) (by omega), show 906 + 93 = 998 + 1 from rfl, i1, qB_some, psh_some, b_X12_where_87, lc_lt]
      by_cases g4 : m < q (n - 1)
      · rw [if_pos g4, b_X12_where_91]
        exact ⟨_, _, rfl, e2⟩
      · rw [if_neg g4, b_X12_where_94, if_neg (by omega), b_X12_where_114, w32_id (z := (n : Int) - 2) (by omega) (by omega), i2, qB_some, psh_some, b_X12_where_124, w32_id (z := (s : Int)) (by omega) (by omega), show 998 + 1 = 997 + 2 from rfl, f1, qB_some, psh_none, b_X12_where_128]
        exact ⟨r2, v3, lp, fP_t e2 (fP_75 f2)⟩
    · rw [if_neg (by omega), b_X12_where_94, if_pos (by omega), b_X12_where_99]
      by_cases g4 : x < 0
      · rw [if_pos g4, b_X12_where_103, show 906 + 93 = 998 + 1 from rfl, c_yardMany, qB_some, psh_some, b_X12_where_108, b_X12_where_113]
        exact ⟨_, _, rfl, e2⟩
      · rw [if_neg g4, b_X12_where_112, b_X12_where_113]
        exact ⟨_, _, rfl, e2⟩
  · rw [if_neg g2, b_X12_where_61]
    exact ⟨_, _, rfl, e2⟩
theorem rfR_0 {a : Int} (g : rfR v a = 0) : ∃ K : Nat, a = (K : Int) ∧ K < 6 ∧ v 53 K = 1 := by
  unfold rfR at g
  by_cases y : 0 ≤ a ∧ a < 6
  · rw [if_pos y] at g
    by_cases y2 : v 53 a.toNat = -1
    · rw [if_pos y2] at g
      omega
    · rw [if_neg y2] at g
      by_cases y3 : v 53 a.toNat = 1
      · exact ⟨a.toNat, by omega, by omega, y3⟩
      · rw [if_neg y3] at g
        omega
  · rw [if_neg y] at g
    omega
theorem rfR_n {a : Int} (g : rfR v a ≠ 0) : rfR v a < 0 ∧ (rfR v a = -1 ↔ ¬ (0 ≤ a ∧ a < 6)) := by
  unfold rfR at g ⊢
  by_cases y : 0 ≤ a ∧ a < 6
  · rw [if_pos y] at g ⊢
    by_cases y2 : v 53 a.toNat = -1
    · rw [if_pos y2]
      omega
    · rw [if_neg y2] at g ⊢
      by_cases y3 : v 53 a.toNat = 1
      · rw [if_pos y3] at g
        omega
      · rw [if_neg y3]
        omega
  · rw [if_neg y]
    omega
theorem opr_where (h : rlR v) (a m x : Int) : opE L xs v nX11_where nX12_where 0 [(0, a), (0, m), (0, x)] := by
  have hLL := rW_L h.1
  have hML := rM_L h.1
  -- the class up to its row
  have A : ∃ r1 v1, qE L xs 1000 nX11_where [(2, 0), (0, a), (0, m), (0, x)] (qS v) = some (some (0, r1), qS v1) ∧ fW v v1 := by
    rw [e_X11_where, b_X11_where_0]
    by_cases g1 : m < 0
    · rw [if_pos g1, b_X11_where_27]
      exact ⟨_, _, rfl, fW_r v⟩
    · rw [if_neg g1, b_X11_where_4]
      by_cases g2 : 9999 < m
      · rw [if_pos g2, b_X11_where_27]
        exact ⟨_, _, rfl, fW_r v⟩
      · rw [if_neg g2, b_X11_where_11]
        have t29 : (x = -1 ∨ (0 ≤ x ∧ x < 2 * v 11 0)) → ∃ r1 v1, qG L xs 999 CX11_where 29 [(2, 0), (0, a), (0, m), (0, x), (9, 0), (9, 0), (9, 0)] [] (qS v) = some (some (0, r1), qS v1) ∧ fW v v1 := fun hx => by
          rw [b_X11_where_29, show (999 : Nat) = 996 + 3 from rfl, k_refusalOfRow, qB_some, psh_some, b_X11_where_38]
          by_cases g : rfR v a = 0
          · obtain ⟨K, rfl, k1, k2⟩ := rfR_0 g
            obtain ⟨n, q, hr⟩ := rl_rowS h k1 k2
            rw [if_pos g, g]
            exact k_where h hr m x (by omega) hx
          · rw [if_neg g, b_X11_where_45]
            exact ⟨_, _, rfl, fW_r v⟩
        by_cases g3 : x = -1
        · rw [if_pos g3]
          exact t29 (Or.inl g3)
        · rw [if_neg g3, b_X11_where_16, show (999 : Nat) = 996 + 3 from rfl, c_hasPlace (by omega) (by omega), qB_some, psh_some, b_X11_where_24, zb_0]
          by_cases g4 : 0 ≤ x ∧ x < 2 * v 11 0
          · rw [if_pos g4]
            exact t29 (Or.inr g4)
          · rw [if_neg g4, b_X11_where_27]
            exact ⟨_, _, rfl, fW_r v⟩
  obtain ⟨r1, v1, A1, A2⟩ := A
  have h1 := rlR_fW A2 h
  have hML1 := rM_L h1.1
  have hLL1 := rW_L h1.1
  have B : ∃ r2 v2, qE L xs 1000 nX12_where [(2, 63), (0, a), (0, m), (0, x)] (qS v1) = some (some (0, r2), qS v2) ∧ fP v1 v2 := by
    rw [e_X12_where, b_X12_where_0, show (999 : Nat) = 996 + 3 from rfl, m_shortsIs h1, qB_some, psh_some, b_X12_where_5]
    have t37 : ∃ r2 v2, qG L xs (996 + 3) CX12_where 37 [(2, 63), (0, a), (0, m), (0, x), (9, 0), (9, 0), (9, 0), (9, 0)] [] (qS v1) = some (some (0, r2), qS v2) ∧ fP v1 v2 := by
      rw [b_X12_where_37, m_shortsIs h1, qB_some, psh_some, b_X12_where_42]
      by_cases g : rfR v1 a = 0
      · obtain ⟨K, rfl, k1, k2⟩ := rfR_0 g
        obtain ⟨n, q, hr⟩ := rl_rowS h1 k1 k2
        have e : (if rfR v1 (K : Int) = 0 then (1 : Int) else rfR v1 (K : Int)) = 1 := if_pos g
        rw [e, if_neg (by decide)]
        exact m_where h1 hr m x
      · have e : (if rfR v1 a = 0 then (1 : Int) else rfR v1 a) = rfR v1 a := if_neg g
        rw [e, if_pos (rfR_n g).1, b_X12_where_45, m_shortsIs h1, e, qB_some, psh_some, b_X12_where_50]
        exact ⟨_, _, rfl, fP_r v1⟩
    generalize (if rfR v1 a = 0 then (1 : Int) else rfR v1 a) = z0
    by_cases g0 : z0 = -1
    · rw [if_pos g0, b_X12_where_35]
      exact ⟨_, _, rfl, fP_r v1⟩
    · rw [if_neg g0, b_X12_where_9, show 996 + 3 = 998 + 1 from rfl, c_within, qB_some, psh_some, b_X12_where_18, zb_0]
      by_cases g1 : 0 ≤ m ∧ m ≤ 9999
      · rw [if_pos g1, b_X12_where_21]
        by_cases g3 : x = -1
        · rw [if_pos g3]
          exact t37
        · rw [if_neg g3, b_X12_where_26, show 998 + 1 = 997 + 2 from rfl, c_isPlace (by omega) (by omega), qB_some, psh_some, b_X12_where_32, zb_0]
          by_cases g4 : 0 ≤ x ∧ x < 2 * v1 64 140
          · rw [if_pos g4]
            exact t37
          · rw [if_neg g4, b_X12_where_35]
            exact ⟨_, _, rfl, fP_r v1⟩
      · rw [if_neg g1, b_X12_where_35]
        exact ⟨_, _, rfl, fP_r v1⟩
  obtain ⟨r2, v2, B1, B2⟩ := B
  exact ⟨r1, r2, v1, v2, A1, B1, rlR_fP B2 h1⟩
end OTR
