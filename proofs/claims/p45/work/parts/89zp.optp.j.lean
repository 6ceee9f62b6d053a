/-! JOINED: 89zp.optp, 89zq.optq, 89zr.optr -/
section
/-! SEEN: the first two that can't be, on both sides -/
section OTP
variable {L : Nat} {xs : Nat → Int} {d : Nat} {v w : Nat → Nat → Int} {E : Nat → Nat → Int → Prop} {P K n : Nat} {q : Nat → Int}
/-- he can have come in time -/
def inT (E : Nat → Nat → Int → Prop) (q : Nat → Int) (k : Nat) : Prop := ∃ m z, Wk E m (q (2 * k - 2)).toNat (q (2 * k)).toNat z ∧ z ≤ q (2 * k + 1) - q (2 * k - 1)
/-- the k-th two can't be -/
def unl (E : Nat → Nat → Int → Prop) (P : Nat) (q : Nat → Int) (n k : Nat) : Prop := n ≤ 2 * k + 1 ∨ ¬ (0 ≤ q (2 * k) ∧ q (2 * k) < (P : Int)) ∨ ¬ (0 ≤ q (2 * k + 1) ∧ q (2 * k + 1) ≤ 9999) ∨ (0 < k ∧ ¬ inT E q k)
/-- the first such two, or none (-2) -/
def frs (E : Nat → Nat → Int → Prop) (P : Nat) (q : Nat → Int) (n : Nat) (r : Int) : Prop := (r = -2 ∧ ∀ k, 2 * k < n → ¬ unl E P q n k) ∨ ∃ k : Nat, r = (k : Int) ∧ 2 * k < n ∧ unl E P q n k ∧ ∀ j, j < k → ¬ unl E P q n j
theorem frs_one {r s : Int} (h : frs E P q n r) (g : frs E P q n s) : r = s := by
  rcases h with ⟨h1, h2⟩ | ⟨k, h1, h2, h3, h4⟩
  · rcases g with ⟨g1, g2⟩ | ⟨j, g1, g2, g3, g4⟩
    · rw [h1, g1]
    · exact absurd g3 (h2 j g2)
  · rcases g with ⟨g1, g2⟩ | ⟨j, g1, g2, g3, g4⟩
    · exact absurd h3 (g2 k h2)
    · have a : ¬ j < k := fun z => h4 j z g3
      have b : ¬ k < j := fun z => g4 k z h3
      rw [h1, g1, show j = k by omega]
theorem Lst_t {s p : Nat} {I x : Int} (h : Lst E s p I x) (t : Int) (hI : I = 9999 ∨ I = -2) : (0 ≤ x ∧ x < 9999 ∧ x ≤ t) ↔ ∃ m z, Wk E m s p z ∧ z ≤ t := by
  rcases h with ⟨h1, h2, ⟨m, h3⟩, h4⟩ | ⟨h1, h2⟩
  · refine ⟨fun a => ⟨m, x, h3, a.2.2⟩, fun ⟨m, z, a, b⟩ => ?_⟩
    have := h4 m z a
    omega
  · refine ⟨fun a => ?_, fun ⟨m, z, a, b⟩ => absurd a (h2 m z)⟩
    omega
/-- a row of shorts on shelf K, as both hold it -/
def rowS (v : Nat → Nat → Int) (K n : Nat) (q : Nat → Int) : Prop := K < 6 ∧ n ≤ 60 ∧ v 53 K = 1 ∧ szS v K = (n : Int) ∧ v 86 K = 51 ∧ v 87 K = (n : Int) ∧ ∀ i, i < 60 → v (57 + K) i = q i ∧ v 88 (60 * K + i) = q i ∧ -32768 ≤ q i ∧ q i ≤ 32767
theorem rowS_get (h : rowS v K n q) (hS : rlS v) {i : Nat} (hi : i < n) : qE L xs (d + 5) nX8_get [(2, 52), (0, (K : Int)), (0, (i : Int))] (qS v) = some (some (1, q i), qS v) := by
  obtain ⟨h1, h2, h3, h4, h5, h6, h7⟩ := h
  rw [cr_get hS K i h1 (by omega), (h7 i (by omega)).1]
theorem rowS_item (h : rowS v K n q) {i : Nat} (hi : i < n) : qE L xs (d + 1) nX12_itemAt [(2, 63), (0, (K : Int)), (0, (i : Int))] (qS v) = some (some (1, q i), qS v) := by
  obtain ⟨h1, h2, h3, h4, h5, h6, h7⟩ := h
  rw [e_X12_itemAt, b_X12_itemAt_0, w32_id (z := 60 * (K : Int)) (by omega) (by omega), w32_id (z := 60 * (K : Int) + (i : Int)) (by omega) (by omega), if_pos (by omega), show (60 * (K : Int) + (i : Int)).toNat = 60 * K + i by omega, (h7 i (by omega)).2.1, b_X12_itemAt_11]
theorem rowS_W (h : rowS v K n q) (hw : fW v w) : rowS w K n q := by
  have h1 := h.1
  unfold rowS szS at h ⊢
  rw [fW_c hw (c := 53) (by omega), fW_c hw (c := 55) (by omega), fW_c hw (c := 86) (by omega), fW_c hw (c := 87) (by omega), fW_c hw (c := 57 + K) (by omega), fW_c hw (c := 88) (by omega)]
  exact h
theorem rlS_W (h : rlS v) (hw : fW v w) : rlS w := rlS_cg (fun c k a => by
  have : w c = v c := fW_c hw (by unfold dsS at a; omega)
  rw [this]) h
/-- the class: a two is as said -/
theorem k_said {S : Nat} (h : rowS v K n q) (hS : rlS v) (hL : WOK v S P) {i : Nat} (hi : i + 1 < n) : qE L xs (d + 6) nX7_isAsSaid [(2, 52), (0, (K : Int)), (0, (i : Int)), (2, 29)] (qS v) = some (some (0, zb ((0 ≤ q i ∧ q i < (P : Int)) ∧ 0 ≤ q (i + 1) ∧ q (i + 1) ≤ 9999)), qS v) := by
  have h2 := h.2.1
  have r0 := h.2.2.2.2.2.2 i (by omega)
  have g1 : qE L xs (d + 5) nX8_get [(2, 52), (0, (K : Int)), (0, (i : Int) + 1)] (qS v) = some (some (1, q (i + 1)), qS v) := rowS_get h hS (i := i + 1) hi
  rw [show d + 6 = d + 5 + 1 from rfl, e_X7_isAsSaid, b_X7_isAsSaid_0, w32_id (by omega) (by omega), g1, qB_some, psh_some, b_X7_isAsSaid_8, rowS_get h hS (i := i) (by omega), qB_some, psh_some, b_X7_isAsSaid_17, w32_id (by omega) (by omega), show d + 5 = d + 4 + 1 from rfl, c_isThere hL, qB_some, psh_some, b_X7_isAsSaid_21, zb_0]
  by_cases z1 : 0 ≤ q i ∧ q i < (P : Int)
  · rw [if_pos z1, b_X7_isAsSaid_24, lc_lt]
    by_cases z2 : q (i + 1) < 0
    · rw [if_pos z2, b_X7_isAsSaid_44, b_X7_isAsSaid_45, if_pos (Or.inl rfl), zb_f (by omega)]
    · rw [if_neg z2, b_X7_isAsSaid_31, lc_gt]
      by_cases z3 : 9999 < q (i + 1)
      · rw [if_pos z3, b_X7_isAsSaid_44, b_X7_isAsSaid_45, if_pos (Or.inl rfl), zb_f (by omega)]
      · rw [if_neg z3, b_X7_isAsSaid_40, b_X7_isAsSaid_45, if_pos (Or.inr rfl), zb_t (by omega)]
  · rw [if_neg z1, b_X7_isAsSaid_44, b_X7_isAsSaid_45, if_pos (Or.inl rfl), zb_f (fun t => z1 t.1)]
/-- the class: he can have come in time -/
theorem k_inTime {S k : Nat} (h : rowS v K n q) (hS : rlS v) (hL : WOK v S P) (hE : EC v S (-1) = E) (hk : 0 < k) (hi : 2 * k + 1 < n) (h1 : 0 ≤ q (2 * k - 2) ∧ q (2 * k - 2) < (P : Int)) (h2 : 0 ≤ q (2 * k) ∧ q (2 * k) < (P : Int)) : ∃ v' z, qE L xs (d + 6) nX7_isInTime [(2, 52), (0, (K : Int)), (0, ((2 * k : Nat) : Int)), (2, 29)] (qS v) = some (some (0, z), qS v') ∧ (∀ c, c ≠ 34 → v' c = v c) ∧ (z = 0 ∨ z = 1) ∧ (z = 1 ↔ inT E q k) := by
  have n60 := h.2.1
  obtain ⟨s, hs⟩ : ∃ s : Nat, q (2 * k - 2) = (s : Int) := ⟨(q (2 * k - 2)).toNat, by omega⟩
  obtain ⟨p, hp⟩ : ∃ p : Nat, q (2 * k) = (p : Int) := ⟨(q (2 * k)).toNat, by omega⟩
  have ra := h.2.2.2.2.2.2 (2 * k + 1) (by omega)
  have rb := h.2.2.2.2.2.2 (2 * k - 1) (by omega)
  have rc := h.2.2.2.2.2.2 (2 * k - 2) (by omega)
  have rd := h.2.2.2.2.2.2 (2 * k) (by omega)
  obtain ⟨v', e1, e2, e3⟩ := c_from (L := L) (xs := xs) (d := d + 2) hL hE (show s < P by omega)
  have hw : fW v v' := fW_own (fun c hc => e2 c (by omega))
  have g1 : qE L xs (d + 5) nX8_get [(2, 52), (0, (K : Int)), (0, ((2 * k : Nat) : Int) + 1)] (qS v) = some (some (1, q (2 * k + 1)), qS v) := rowS_get h hS (i := 2 * k + 1) hi
  have g2 : qE L xs (d + 5) nX8_get [(2, 52), (0, (K : Int)), (0, ((2 * k : Nat) : Int) - 1)] (qS v) = some (some (1, q (2 * k - 1)), qS v) := by
    have := rowS_get (L := L) (xs := xs) (d := d) h hS (i := 2 * k - 1) (by omega)
    rw [show ((2 * k - 1 : Nat) : Int) = ((2 * k : Nat) : Int) - 1 by omega] at this
    exact this
  have g3 : qE L xs (d + 5) nX8_get [(2, 52), (0, (K : Int)), (0, ((2 * k : Nat) : Int) - 2)] (qS v) = some (some (1, (s : Int)), qS v) := by
    have := rowS_get (L := L) (xs := xs) (d := d) h hS (i := 2 * k - 2) (by omega)
    rw [show ((2 * k - 2 : Nat) : Int) = ((2 * k : Nat) : Int) - 2 by omega, hs] at this
    exact this
  have g4 : qE L xs (d + 5) nX8_get [(2, 52), (0, (K : Int)), (0, ((2 * k : Nat) : Int))] (qS v') = some (some (1, (p : Int)), qS v') := by
    have := rowS_get (L := L) (xs := xs) (d := d) (rowS_W h hw) (rlS_W hS hw) (i := 2 * k) (by omega)
    rw [hp] at this
    exact this
  have m1 : qE L xs (d + 5) nX10_minutes [(2, 29), (0, (p : Int))] (qS v') = some (some (0, v' 34 p), qS v') := c_minutes (d := d + 3) (WOK_cg e2 hL) (show p < P by omega)
  have t := Lst_t (e3 p (by omega)) (q (2 * k + 1) - q (2 * k - 1)) (Or.inl rfl)
  have x0 : 0 ≤ v' 34 p := by
    rcases e3 p (by omega) with ⟨y, -⟩ | ⟨y, -⟩ <;> omega
  have hT : inT E q k ↔ ∃ m z, Wk E m s p z ∧ z ≤ q (2 * k + 1) - q (2 * k - 1) := by
    unfold inT
    rw [hs, hp]
    exact Iff.rfl
  rw [show d + 6 = d + 5 + 1 from rfl, e_X7_isInTime, b_X7_isInTime_0, w32_id (z := ((2 * k : Nat) : Int) + 1) (by omega) (by omega), g1, qB_some, psh_some, b_X7_isInTime_8, w32_id (z := ((2 * k : Nat) : Int) - 1) (by omega) (by omega), g2, qB_some, psh_some, b_X7_isInTime_16, w32_id (z := ((2 * k : Nat) : Int) - 2) (by omega) (by omega), g3, qB_some, psh_some, b_X7_isInTime_28, w32_id (z := (s : Int)) (by omega) (by omega), show d + 5 = d + 2 + 3 from rfl, e1, qB_some, psh_none, b_X7_isInTime_33, show d + 2 + 3 = d + 5 from rfl, g4, qB_some, psh_some, b_X7_isInTime_40, w32_id (z := (p : Int)) (by omega) (by omega), m1, qB_some, psh_some, b_X7_isInTime_44, w64_id (by omega) (by omega)]
  by_cases z1 : v' 34 p < 9999
  · rw [if_pos z1, b_X7_isInTime_54, lc_gt]
    by_cases z2 : q (2 * k + 1) - q (2 * k - 1) < v' 34 p
    · rw [if_pos z2, b_X7_isInTime_67, b_X7_isInTime_68, if_pos (Or.inl rfl)]
      refine ⟨v', 0, rfl, e2, Or.inl rfl, fun z => absurd z (by decide), fun z => ?_⟩
      have := t.mpr (hT.mp z)
      omega
    · rw [if_neg z2, b_X7_isInTime_63, b_X7_isInTime_68, if_pos (Or.inr rfl)]
      exact ⟨v', 1, rfl, e2, Or.inr rfl, fun _ => hT.mpr (t.mp ⟨x0, z1, by omega⟩), fun _ => rfl⟩
  · rw [if_neg z1, b_X7_isInTime_67, b_X7_isInTime_68, if_pos (Or.inl rfl)]
    refine ⟨v', 0, rfl, e2, Or.inl rfl, fun z => absurd z (by decide), fun z => ?_⟩
    have := t.mpr (hT.mp z)
    omega
theorem k_seen {S : Nat} (hk : K < 6) (n60 : n ≤ 60) : ∀ (m k : Nat) (v : Nat → Nat → Int), n ≤ 2 * k + 2 * m → rowS v K n q → rlS v → WOK v S P → EC v S (-1) = E → (∀ j, j < k → 2 * j < n ∧ ¬ unl E P q n j) → ∃ v' r, qG L xs (d + 6) CX7_firstUnlikely 9 [(2, 52), (0, (K : Int)), (2, 29), (0, (n : Int)), (0, ((2 * k : Nat) : Int))] [] (qS v) = some (some (0, r), qS v') ∧ (∀ c, c ≠ 34 → v' c = v c) ∧ frs E P q n r
  | 0, k, v, hm, h, hS, hL, hE, hj => by
    refine ⟨v, -2, ?_, fun _ _ => rfl, Or.inl ⟨rfl, fun j hj2 => (hj j (by omega)).2⟩⟩
    rw [b_X7_firstUnlikely_9, if_neg (by omega), b_X7_firstUnlikely_61]
  | m + 1, k, v, hm, h, hS, hL, hE, hj => by
    rw [b_X7_firstUnlikely_9]
    by_cases z0 : 2 * k < n
    · rw [if_pos (by omega), b_X7_firstUnlikely_15, w32_id (z := ((2 * k : Nat) : Int) + 1) (by omega) (by omega)]
      have ret : ∀ u : Nat → Nat → Int, unl E P q n k → (∀ c, c ≠ 34 → u c = v c) → ∃ v' r, qG L xs (d + 6) CX7_firstUnlikely 50 [(2, 52), (0, (K : Int)), (2, 29), (0, (n : Int)), (0, ((2 * k : Nat) : Int))] [] (qS u) = some (some (0, r), qS v') ∧ (∀ c, c ≠ 34 → v' c = v c) ∧ frs E P q n r := fun u hu hc => by
        refine ⟨u, (k : Int), ?_, hc, Or.inr ⟨k, rfl, z0, hu, fun j hj2 => (hj j hj2).2⟩⟩
        rw [b_X7_firstUnlikely_50, show Int.tdiv ((2 * k : Nat) : Int) 2 = (k : Int) by rw [Int.tdiv_eq_ediv_of_nonneg (by omega)]; omega, w32_id (by omega) (by omega)]
      by_cases z1 : 2 * k + 1 < n
      · have sd : qE L xs (d + 6) nX7_isAsSaid [(2, 52), (0, (K : Int)), (0, ((2 * k : Nat) : Int)), (2, 29)] (qS v) = _ := k_said h hS hL (i := 2 * k) z1
        rw [if_pos (by omega), b_X7_firstUnlikely_23, sd, qB_some, psh_some, b_X7_firstUnlikely_31, zb_0]
        by_cases z2 : (0 ≤ q (2 * k) ∧ q (2 * k) < (P : Int)) ∧ 0 ≤ q (2 * k + 1) ∧ q (2 * k + 1) ≤ 9999
        · rw [if_pos z2, b_X7_firstUnlikely_34]
          have nx : ∀ u : Nat → Nat → Int, ¬ unl E P q n k → (∀ c, c ≠ 34 → u c = v c) → ∃ v' r, qG L xs (d + 6) CX7_firstUnlikely 55 [(2, 52), (0, (K : Int)), (2, 29), (0, (n : Int)), (0, ((2 * k : Nat) : Int))] [] (qS u) = some (some (0, r), qS v') ∧ (∀ c, c ≠ 34 → v' c = v c) ∧ frs E P q n r := fun u hu hc => by
            have hw : fW v u := fW_own (fun c a => hc c (by omega))
            have hEu : EC u S (-1) = E := by
              rw [← hE]
              unfold EC
              rw [hc 30 (by omega), hc 31 (by omega), hc 32 (by omega), hc 33 (by omega)]
            obtain ⟨v', r, e1, e2, e3⟩ := k_seen hk n60 m (k + 1) u (by omega) (rowS_W h hw) (rlS_W hS hw) (WOK_cg hc hL) hEu (fun j hj2 => by
              by_cases y : j = k
              · rw [y]
                exact ⟨z0, hu⟩
              · exact hj j (by omega))
            refine ⟨v', r, ?_, fun c a => (e2 c a).trans (hc c a), e3⟩
            rw [b_X7_firstUnlikely_55, w32_id (by omega) (by omega), show ((2 * k : Nat) : Int) + 2 = ((2 * (k + 1) : Nat) : Int) by omega]
            exact e1
          by_cases z3 : 0 < k
          · have pv := (hj (k - 1) (by omega)).2
            have pv2 : 0 ≤ q (2 * k - 2) ∧ q (2 * k - 2) < (P : Int) := by
              unfold unl at pv
              rw [show 2 * (k - 1) = 2 * k - 2 by omega] at pv
              omega
            obtain ⟨u, z, e1, e2, e3, e4⟩ := k_inTime (L := L) (xs := xs) (d := d) h hS hL hE z3 z1 pv2 z2.1
            rw [if_pos (by omega), b_X7_firstUnlikely_39, e1, qB_some, psh_some, b_X7_firstUnlikely_47]
            rcases e3 with e3 | e3
            · rw [if_pos e3]
              exact ret u (Or.inr (Or.inr (Or.inr ⟨z3, fun t => by have := e4.mpr t; omega⟩))) e2
            · rw [if_neg (by omega)]
              refine nx u (fun t => ?_) e2
              have it := e4.mp e3
              rcases t with t | t | t | t
              · omega
              · exact t z2.1
              · exact t z2.2
              · exact t.2 it
          · rw [if_neg (by omega)]
            refine nx v (fun t => ?_) (fun _ _ => rfl)
            rcases t with t | t | t | t
            · omega
            · exact t z2.1
            · exact t z2.2
            · exact z3 t.1
        · rw [if_neg z2]
          refine ret v ?_ (fun _ _ => rfl)
          by_cases z3 : 0 ≤ q (2 * k) ∧ q (2 * k) < (P : Int)
          · exact Or.inr (Or.inr (Or.inl (fun t => z2 ⟨z3, t⟩)))
          · exact Or.inr (Or.inl z3)
      · rw [if_neg (by omega)]
        exact ret v (Or.inl (by omega)) (fun _ _ => rfl)
    · refine ⟨v, -2, ?_, fun _ _ => rfl, Or.inl ⟨rfl, fun j hj2 => (hj j (by omega)).2⟩⟩
      rw [if_neg (by omega), b_X7_firstUnlikely_61]
theorem k_firstUnlikely {S : Nat} (h : rowS v K n q) (hS : rlS v) (hL : WOK v S P) (hE : EC v S (-1) = E) : ∃ v' r, qE L xs (d + 7) nX7_firstUnlikely [(2, 52), (0, (K : Int)), (2, 29)] (qS v) = some (some (0, r), qS v') ∧ (∀ c, c ≠ 34 → v' c = v c) ∧ frs E P q n r := by
  obtain ⟨v', r, e1, e2, e3⟩ := k_seen (L := L) (xs := xs) (d := d) h.1 h.2.1 60 0 v (by have := h.2.1; omega) h hS hL hE (fun j hj => absurd hj (Nat.not_lt_zero j))
  refine ⟨v', r, ?_, e2, e3⟩
  rw [show d + 7 = d + 6 + 1 from rfl, e_X7_firstUnlikely, b_X7_firstUnlikely_0, show d + 6 = d + 3 + 3 from rfl, cr_sizeOf K h.1, h.2.2.2.1, qB_some, psh_some, b_X7_firstUnlikely_5]
  exact e1
end OTP
end
section
/-! SEEN: the reference; oneMan, where -/
section OTQ
variable {L : Nat} {xs : Nat → Int} {d : Nat} {v w : Nat → Nat → Int} {E : Nat → Nat → Int → Prop} {P K n : Nat} {q : Nat → Int}
theorem rowS_75 (h : rowS v K n q) (hw : ∀ c, c ≠ 75 → c ≠ 76 → w c = v c) : rowS w K n q := by
  have h1 := h.1
  unfold rowS szS at h ⊢
  rw [hw 53 (by omega) (by omega), hw 55 (by omega) (by omega), hw 86 (by omega) (by omega), hw 87 (by omega) (by omega), hw (57 + K) (by omega) (by omega), hw 88 (by omega) (by omega)]
  exact h
theorem m_seen (hP60 : P ≤ 60) (hT : Okg E P 99) : ∀ (m k : Nat) (v : Nat → Nat → Int) (u3 u5 : pm_V), n ≤ 2 * k + 2 * m → rowS v K n q → 2 * v 64 140 = (P : Int) → MH v E → (∀ j, j < k → 2 * j < n ∧ ¬ unl E P q n j) → ∃ v' r, qG L xs (d + 3) CX12_firstFalse 6 [(2, 63), (0, (K : Int)), (0, (k : Int)), u3, (9, 0), u5] [] (qS v) = some (some (0, r), qS v') ∧ (∀ c, c ≠ 75 → c ≠ 76 → v' c = v c) ∧ frs E P q n r
  | 0, k, v, u3, u5, hm, h, hY, hM, hj => by
    have hK := h.1
    have n60 := h.2.1
    have h87 := h.2.2.2.2.2.1
    by_cases k60 : 2 * k ≤ 200
    · refine ⟨v, -2, ?_, fun _ _ _ => rfl, Or.inl ⟨rfl, fun j hj2 => (hj j (by omega)).2⟩⟩
      rw [b_X12_firstFalse_6, if_pos (by omega), Int.toNat_natCast, h87, w32_id (by omega) (by omega), b_X12_firstFalse_15, if_neg (by omega), b_X12_firstFalse_148]
    · exact absurd (hj 60 (by omega)).1 (by omega)
  | m + 1, k, v, u3, u5, hm, h, hY, hM, hj => by
    have hK := h.1
    have n60 := h.2.1
    have h87 := h.2.2.2.2.2.1
    by_cases k60 : 2 * k ≤ 200
    · have w1 : w32 (2 * (k : Int)) = 2 * (k : Int) := w32_id (by omega) (by omega)
      by_cases z0 : 2 * k < n
      · have ret : ∀ (u : Nat → Nat → Int) (u3 u5 : pm_V), unl E P q n k → (∀ c, c ≠ 75 → c ≠ 76 → u c = v c) → (qG L xs (d + 3) CX12_firstFalse 6 [(2, 63), (0, (K : Int)), (0, (k : Int)), u3, (9, 0), u5] [] (qS v) = some (some (0, (k : Int)), qS u)) → ∃ v' r, qG L xs (d + 3) CX12_firstFalse 6 [(2, 63), (0, (K : Int)), (0, (k : Int)), u3, (9, 0), u5] [] (qS v) = some (some (0, r), qS v') ∧ (∀ c, c ≠ 75 → c ≠ 76 → v' c = v c) ∧ frs E P q n r := fun u u3 u5 hu hc he => ⟨u, (k : Int), he, hc, Or.inr ⟨k, rfl, z0, hu, fun j hj2 => (hj j hj2).2⟩⟩
        have st : qG L xs (d + 3) CX12_firstFalse 6 [(2, 63), (0, (K : Int)), (0, (k : Int)), u3, (9, 0), u5] [] (qS v) = if 2 * k + 1 < n then qG L xs (d + 3) CX12_firstFalse 32 [(2, 63), (0, (K : Int)), (0, (k : Int)), u3, (9, 0), u5] [] (qS v) else some (some (0, (k : Int)), qS v) := by
          rw [b_X12_firstFalse_6, if_pos (by omega), Int.toNat_natCast, h87, w1, b_X12_firstFalse_15, if_pos (by omega), b_X12_firstFalse_18, if_pos (by omega), Int.toNat_natCast, h87, w1, w32_id (z := 2 * (k : Int) + 1) (by omega) (by omega), b_X12_firstFalse_29]
          by_cases z : 2 * k + 1 < n
          · rw [if_pos (by omega), if_pos z]
          · rw [if_neg (by omega), if_neg z, b_X12_firstFalse_67]
        clear w1
        by_cases z1 : 2 * k + 1 < n
        · have ra := h.2.2.2.2.2.2 (2 * k + 1) (by omega)
          have rd := h.2.2.2.2.2.2 (2 * k) (by omega)
          have i1 : ∀ u, rowS u K n q → qE L xs (d + 3) nX12_itemAt [(2, 63), (0, (K : Int)), (0, w32 (2 * (k : Int)))] (qS u) = some (some (1, q (2 * k)), qS u) := fun u hu => by
            have := rowS_item (L := L) (xs := xs) (d := d + 2) hu (i := 2 * k) (by omega)
            rw [w32_id (by omega) (by omega), show 2 * (k : Int) = ((2 * k : Nat) : Int) by omega]
            exact this
          have i2 : qE L xs (d + 3) nX12_itemAt [(2, 63), (0, (K : Int)), (0, w32 (w32 (2 * (k : Int)) + 1))] (qS v) = some (some (1, q (2 * k + 1)), qS v) := by
            have := rowS_item (L := L) (xs := xs) (d := d + 2) h (i := 2 * k + 1) z1
            rw [w32_id (z := 2 * (k : Int)) (by omega) (by omega), w32_id (by omega) (by omega), show 2 * (k : Int) + 1 = ((2 * k + 1 : Nat) : Int) by omega]
            exact this
          have ip : qE L xs (d + 3) nX12_isPlace [(2, 63), (1, q (2 * k))] (qS v) = some (some (0, zb (0 ≤ q (2 * k) ∧ q (2 * k) < 2 * v 64 140)), qS v) := c_isPlace (d := d + 1) (by omega) (by omega) _
          have iw : qE L xs (d + 3) nX12_within [(1, q (2 * k + 1)), (1, 0), (1, 9999)] (qS v) = some (some (0, zb (0 ≤ q (2 * k + 1) ∧ q (2 * k + 1) ≤ 9999)), qS v) := c_within (d := d + 2) _ _ _
          rw [if_pos z1, b_X12_firstFalse_32, i1 v h, qB_some, psh_some, b_X12_firstFalse_41, ip, qB_some, psh_some, b_X12_firstFalse_44, zb_0] at st
          by_cases z2 : 0 ≤ q (2 * k) ∧ q (2 * k) < (P : Int)
          · rw [if_pos (by omega), b_X12_firstFalse_47, i2, qB_some, psh_some, b_X12_firstFalse_57, iw, qB_some, psh_some, b_X12_firstFalse_64, zb_0] at st
            by_cases z3 : 0 ≤ q (2 * k + 1) ∧ q (2 * k + 1) ≤ 9999
            · rw [if_pos z3, b_X12_firstFalse_69] at st
              have nx : ∀ (u : Nat → Nat → Int) (w3 w5 : pm_V), ¬ unl E P q n k → (∀ c, c ≠ 75 → c ≠ 76 → u c = v c) → ∃ v' r, qG L xs (d + 3) CX12_firstFalse 142 [(2, 63), (0, (K : Int)), (0, (k : Int)), w3, (9, 0), w5] [] (qS u) = some (some (0, r), qS v') ∧ (∀ c, c ≠ 75 → c ≠ 76 → v' c = v c) ∧ frs E P q n r := fun u w3 w5 hu hc => by
                obtain ⟨v', r, e1, e2, e3⟩ := m_seen hP60 hT m (k + 1) u w3 w5 (by omega) (rowS_75 h hc) (by rw [hc 64 (by omega) (by omega)]; exact hY) (MH_cg (hc 74 (by omega) (by omega)) hM) (fun j hj2 => by
                  by_cases y : j = k
                  · rw [y]
                    exact ⟨z0, hu⟩
                  · exact hj j (by omega))
                refine ⟨v', r, ?_, fun c a a2 => (e2 c a a2).trans (hc c a a2), e3⟩
                rw [b_X12_firstFalse_142, w32_id (by omega) (by omega), show (k : Int) + 1 = ((k + 1 : Nat) : Int) by omega]
                exact e1
              by_cases z4 : 0 < k
              · have pv := (hj (k - 1) (by omega)).2
                have pv2 : 0 ≤ q (2 * k - 2) ∧ q (2 * k - 2) < (P : Int) := by
                  unfold unl at pv
                  rw [show 2 * (k - 1) = 2 * k - 2 by omega] at pv
                  omega
                have rb := h.2.2.2.2.2.2 (2 * k - 1) (by omega)
                have rc := h.2.2.2.2.2.2 (2 * k - 2) (by omega)
                obtain ⟨s, hs⟩ : ∃ s : Nat, q (2 * k - 2) = (s : Int) := ⟨(q (2 * k - 2)).toNat, by omega⟩
                obtain ⟨p, hp⟩ : ∃ p : Nat, q (2 * k) = (p : Int) := ⟨(q (2 * k)).toNat, by omega⟩
                have i3 : qE L xs (d + 3) nX12_itemAt [(2, 63), (0, (K : Int)), (0, w32 (w32 (2 * (k : Int)) - 1))] (qS v) = some (some (1, q (2 * k - 1)), qS v) := by
                  have := rowS_item (L := L) (xs := xs) (d := d + 2) h (i := 2 * k - 1) (by omega)
                  rw [w32_id (z := 2 * (k : Int)) (by omega) (by omega), w32_id (by omega) (by omega), show 2 * (k : Int) - 1 = ((2 * k - 1 : Nat) : Int) by omega]
                  exact this
                have i4 : qE L xs (d + 3) nX12_itemAt [(2, 63), (0, (K : Int)), (0, w32 (w32 (2 * (k : Int)) - 2))] (qS v) = some (some (1, q (2 * k - 2)), qS v) := by
                  have := rowS_item (L := L) (xs := xs) (d := d + 2) h (i := 2 * k - 2) (by omega)
                  rw [w32_id (z := 2 * (k : Int)) (by omega) (by omega), w32_id (by omega) (by omega), show 2 * (k : Int) - 2 = ((2 * k - 2 : Nat) : Int) by omega]
                  exact this
                obtain ⟨u, r, e1, e2, e3⟩ := m_wayFrom (L := L) (xs := xs) (d := d) (s := s) (p := p) hP60 hY hT hM (by omega) (by omega)
                have t := Lst_t e3 (q (2 * k + 1) - q (2 * k - 1)) (Or.inr rfl)
                have rr : r = -2 ∨ (0 ≤ r ∧ r ≤ 5841) := by
                  rcases e3 with ⟨y, y2, -⟩ | ⟨y, -⟩
                  · exact Or.inr ⟨y, y2⟩
                  · exact Or.inl y
                have hI : inT E q k ↔ ∃ m z, Wk E m s p z ∧ z ≤ q (2 * k + 1) - q (2 * k - 1) := by
                  unfold inT
                  rw [hs, hp]
                  exact Iff.rfl
                have ws : w32 (q (2 * k - 2)) = (s : Int) := by rw [w32_id (by omega) (by omega)]; exact hs
                have wp : w32 (q (2 * k)) = (p : Int) := by rw [w32_id (by omega) (by omega)]; exact hp
                rw [if_pos (by omega), b_X12_firstFalse_73, i2, qB_some, psh_some, b_X12_firstFalse_83, i3, qB_some, psh_some, b_X12_firstFalse_93, i4, qB_some, psh_some, b_X12_firstFalse_106, i1 v h, qB_some, psh_some, b_X12_firstFalse_115, ws, wp, e1, qB_some, psh_some, b_X12_firstFalse_119, w64_id (by omega) (by omega), lc_lt] at st
                clear ws wp i1 i2 i3 i4
                have tru : ¬ inT E q k → unl E P q n k := fun y => Or.inr (Or.inr (Or.inr ⟨z4, y⟩))
                by_cases z5 : q (2 * k + 1) - q (2 * k - 1) < 0
                · rw [if_pos z5, b_X12_firstFalse_140] at st
                  refine ret u _ _ (tru (fun y => ?_)) e2 st
                  have := t.mpr (hI.mp y)
                  omega
                · rw [if_neg z5, b_X12_firstFalse_127] at st
                  by_cases z6 : r < 0
                  · rw [if_pos z6, b_X12_firstFalse_140] at st
                    refine ret u _ _ (tru (fun y => ?_)) e2 st
                    have := t.mpr (hI.mp y)
                    omega
                  · rw [if_neg z6, b_X12_firstFalse_132, lc_gt] at st
                    by_cases z7 : q (2 * k + 1) - q (2 * k - 1) < r
                    · rw [if_pos z7, b_X12_firstFalse_140] at st
                      refine ret u _ _ (tru (fun y => ?_)) e2 st
                      have := t.mpr (hI.mp y)
                      omega
                    · rw [if_neg z7] at st
                      rw [st]
                      have it : inT E q k := hI.mpr (t.mp ⟨by omega, by omega, by omega⟩)
                      refine nx u _ _ (fun t => ?_) e2
                      rcases t with t | t | t | t
                      · omega
                      · exact t z2
                      · exact t z3
                      · exact t.2 it
              · rw [if_neg (by omega)] at st
                rw [st]
                refine nx v _ _ (fun t => ?_) (fun _ _ _ => rfl)
                rcases t with t | t | t | t
                · omega
                · exact t z2
                · exact t z3
                · exact z4 t.1
            · rw [if_neg z3, b_X12_firstFalse_67] at st
              exact ret v _ _ (Or.inr (Or.inr (Or.inl z3))) (fun _ _ _ => rfl) st
          · rw [if_neg (by omega), b_X12_firstFalse_67] at st
            exact ret v _ _ (Or.inr (Or.inl z2)) (fun _ _ _ => rfl) st
        · rw [if_neg z1] at st
          exact ret v _ _ (Or.inl (by omega)) (fun _ _ _ => rfl) st
      · refine ⟨v, -2, ?_, fun _ _ _ => rfl, Or.inl ⟨rfl, fun j hj2 => (hj j (by omega)).2⟩⟩
        rw [b_X12_firstFalse_6, if_pos (by omega), Int.toNat_natCast, h87, w1, b_X12_firstFalse_15, if_neg (by omega), b_X12_firstFalse_148]
    · exact absurd (hj 60 (by omega)).1 (by omega)
/-- why a row can't be had -/
def rfR (v : Nat → Nat → Int) (a : Int) : Int := if 0 ≤ a ∧ a < 6 then (if v 53 a.toNat = -1 then -11 else if v 53 a.toNat = 1 then 0 else -12) else -1
theorem k_refusalOfRow (a : Int) : qE L xs (d + 3) nX8_refusalOfRow [(2, 52), (0, a), (0, 1)] (qS v) = some (some (0, rfR v a), qS v) := by
  unfold rfR
  by_cases g : 0 ≤ a ∧ a < 6
  · obtain ⟨K, rfl⟩ : ∃ K : Nat, a = (K : Int) := ⟨a.toNat, by omega⟩
    rw [if_pos g, Int.toNat_natCast]
    exact cr_refusalOfRow K (by omega) 1 (by decide)
  · rw [if_neg g, e_X8_refusalOfRow, b_X8_refusalOfRow_0, cs_has, qB_some, psh_some, b_X8_refusalOfRow_4, zb_0, if_neg g, b_X8_refusalOfRow_7]
theorem m_shortsIs (h : rlR v) (a : Int) : qE L xs (d + 3) nX12_shortsIs [(2, 63), (0, a)] (qS v) = some (some (0, if rfR v a = 0 then 1 else rfR v a), qS v) := by
  have hS := h.2.2.2.2.2.2.2.1
  have hB := h.2.2.2.2.2.2.1.1
  rw [e_X12_shortsIs, b_X12_shortsIs_0, ms_isShelf, qB_some, psh_some, b_X12_shortsIs_4, zb_0]
  unfold rfR
  by_cases g : 0 ≤ a ∧ a < 6
  · obtain ⟨K, rfl⟩ : ∃ K : Nat, a = (K : Int) := ⟨a.toNat, by omega⟩
    obtain ⟨m1, m2, m3⟩ := mS_at hS hB.2 K (by omega)
    rw [if_pos g, if_pos g, b_X12_shortsIs_11, if_pos g, b_X12_shortsIs_17, Int.toNat_natCast]
    by_cases g1 : v 53 K = -1
    · have := m1.mpr g1
      rw [if_pos this, b_X12_shortsIs_20, b_X12_shortsIs_42, if_pos g1, if_neg (by decide)]
    · have g2 : ¬ v 86 K < 0 := fun t => g1 (m1.mp t)
      rw [if_neg g2, b_X12_shortsIs_25, if_pos g, Int.toNat_natCast, b_X12_shortsIs_31, if_neg g1]
      by_cases g3 : v 53 K = 1
      · have := (m3 (by omega)).1
        rw [if_pos (show v 86 K = 51 by omega), b_X12_shortsIs_36, b_X12_shortsIs_42, if_pos g3, if_pos rfl]
      · have : ¬ v 86 K = 51 := fun t => by
          by_cases y : 0 ≤ v 53 K
          · have := (m3 y).1
            omega
          · have := m2.mpr (by omega)
            omega
        rw [if_neg this, b_X12_shortsIs_40, b_X12_shortsIs_42, if_neg g3, if_neg (by decide)]
  · rw [if_neg g, if_neg g, b_X12_shortsIs_7, b_X12_shortsIs_42, if_neg (by decide)]
theorem rl_rowS (h : rlR v) (hK : K < 6) (g : v 53 K = 1) : ∃ n q, rowS v K n q := by
  have hS := h.2.2.2.2.2.2.2.1 K hK
  obtain ⟨q1, q2, q3, q4⟩ := hS
  obtain ⟨a1, a2, a3, a4⟩ := q4 (by omega)
  refine ⟨(v 55 K).toNat, v (57 + K), hK, by omega, g, ?_, by omega, by omega, fun i hi => ?_⟩
  · unfold szS
    rw [if_neg (by omega)]
    omega
  · have b := a4 i hi
    have c := b.2.2.1 g
    exact ⟨rfl, b.1, c.1, c.2⟩
/-- the class lays its ways and looks for the first two that can't be -/
theorem k_lookS (h : rlR v) (hr : rowS v K n q) (hP : 2 * v 11 0 = (P : Int)) : ∃ v1 v2 r S, qE L xs (d + 10) nX10_lay [(2, 29), (2, 1), (2, 23)] (qS v) = some (none, qS v1) ∧ qE L xs (d + 10) nX7_firstUnlikely [(2, 52), (0, (K : Int)), (2, 29)] (qS v1) = some (some (0, r), qS v2) ∧ fW v v2 ∧ WOK v2 S P ∧ EC v2 S (-1) = SG v (lwC v) (-1) (-1) (-1) ∧ frs (SG v (lwC v) (-1) (-1) (-1)) P q n r := by
  obtain ⟨hW, hC, hM, hN, h5, h6, h7⟩ := rl_Wz (L := L) (xs := xs) h
  obtain ⟨v1, S, e1, l2, l3⟩ := c_lay (L := L) (xs := xs) (d := d) hW hP hM
  obtain ⟨v2, r, e2, e3, e4⟩ := k_firstUnlikely (L := L) (xs := xs) (d := d + 3) (rowS_W hr l2) (rlS_W h.2.2.2.2.2.2.2.1 l2) l3.1 (EC_all hW l3)
  refine ⟨v1, v2, r, S, e1, e2, fW_t l2 (fW_own (fun c hc => e3 c (by omega))), WOK_cg e3 l3.1, ?_, e4⟩
  rw [← EC_all hW l3]
  unfold EC
  rw [e3 30 (by omega), e3 31 (by omega), e3 32 (by omega), e3 33 (by omega)]
/-- the reference, likewise -/
theorem m_lookS (h : rlR v) (hr : rowS v K n q) (hP : 2 * v 11 0 = (P : Int)) : ∃ v2 r, qE L xs (d + 93) nX12_firstFalse [(2, 63), (0, (K : Int))] (qS v) = some (some (0, r), qS v2) ∧ fP v v2 ∧ MH v2 (SG v (lwC v) (-1) (-1) (-1)) ∧ Okg (SG v (lwC v) (-1) (-1) (-1)) P 99 ∧ frs (SG v (lwC v) (-1) (-1) (-1)) P q n r := by
  obtain ⟨hW, hC, hM, hN, h5, h6, h7⟩ := rl_Wz (L := L) (xs := xs) h
  have hLL := rW_L h.1
  have hML := rM_L h.1
  obtain ⟨v1, e1, e2, e3⟩ := m_asks (L := L) (xs := xs) (d := d) hW hC hN h5 h6 h7 (by omega)
  have hT : Okg (SG v (lwC v) (-1) (-1) (-1)) P 99 := SG_ok hW lwC_b hP (by omega)
  have hr1 : rowS v1 K n q := by
    have hK := hr.1
    unfold rowS szS at hr ⊢
    rw [e2.1 53 (by omega) (by omega) (by omega), e2.1 55 (by omega) (by omega) (by omega), e2.1 86 (by omega) (by omega) (by omega), e2.1 87 (by omega) (by omega) (by omega), e2.1 (57 + K) (by omega) (by omega) (by omega), e2.1 88 (by omega) (by omega) (by omega)]
    exact hr
  have n60 := hr.2.1
  obtain ⟨v2, r, f1, f2, f3⟩ := m_seen (L := L) (xs := xs) (d := d + 89) (P := P) (by omega) hT 60 0 v1 (9, 0) (9, 0) (by omega) hr1 (by rw [e2.1 64 (by omega) (by omega) (by omega)]; omega) e3 (fun j hj => absurd hj (Nat.not_lt_zero j))
  refine ⟨v2, r, ?_, fP_t (fA_P e2) (fP_75 f2), MH_cg (f2 74 (by omega) (by omega)) e3, hT, f3⟩
  rw [show d + 93 = d + 92 + 1 from rfl, e_X12_firstFalse, b_X12_firstFalse_0, e1, qB_some, psh_none, b_X12_firstFalse_4]
  exact f1
theorem opr_oneMan (h : rlR v) (a : Int) : opR L xs v nX11_oneMan nX12_oneMan 0 [(0, a)] := by
  by_cases g : rfR v a = 0
  · have g2 : (0 ≤ a ∧ a < 6) ∧ v 53 a.toNat = 1 := by
      unfold rfR at g
      by_cases y : 0 ≤ a ∧ a < 6
      · rw [if_pos y] at g
        by_cases y2 : v 53 a.toNat = -1
        · rw [if_pos y2] at g
          omega
        · rw [if_neg y2] at g
          by_cases y3 : v 53 a.toNat = 1
          · exact ⟨y, y3⟩
          · rw [if_neg y3] at g
            omega
      · rw [if_neg y] at g
        omega
    obtain ⟨K, rfl⟩ : ∃ K : Nat, a = (K : Int) := ⟨a.toNat, by omega⟩
    rw [Int.toNat_natCast] at g2
    obtain ⟨n, q, hr⟩ := rl_rowS h (show K < 6 by omega) g2.2
    have hLL := rW_L h.1
    obtain ⟨P, hP⟩ : ∃ P : Nat, 2 * v 11 0 = (P : Int) := ⟨(2 * v 11 0).toNat, by omega⟩
    obtain ⟨v1, v2, r, S, e1, e2, e3, e4, e5, e6⟩ := k_lookS (L := L) (xs := xs) (d := 989) h hr hP
    have hr2 := rowS_W hr e3
    have h2 := rlR_fW e3 h
    have hP2 : 2 * v2 11 0 = (P : Int) := by rw [fW_c e3 (c := 11) (by omega)]; exact hP
    obtain ⟨v3, r3, f1, f2, f3, f4, f5⟩ := m_lookS (L := L) (xs := xs) (d := 906) h2 hr2 hP2
    have lw : lwC v2 = lwC v := by
      funext y s u
      unfold lwC lwN
      rw [fW_c e3 (c := 63) (by omega), fW_c e3 (c := 72) (by omega), fW_c e3 (c := 3) (by omega), fW_c e3 (c := 4) (by omega), fW_c e3 (c := 5) (by omega)]
    rw [SG_W e3, lw] at f5
    have := frs_one e6 f5
    subst this
    refine ⟨r, v2, v3, ?_, ?_, rlR_fP f2 h2⟩
    · rw [e_X11_oneMan, b_X11_oneMan_0, show (999 : Nat) = 996 + 3 from rfl, k_refusalOfRow, g, qB_some, psh_some, b_X11_oneMan_9, if_pos rfl, b_X11_oneMan_16, show 996 + 3 = 989 + 10 from rfl, e1, qB_some, psh_none, b_X11_oneMan_31, e2, qB_some, psh_some, b_X11_oneMan_43]
    · have g3 : rfR v2 (K : Int) = 0 := by
        unfold rfR
        rw [fW_c e3 (c := 53) (by omega)]
        exact g
      rw [e_X12_oneMan, b_X12_oneMan_0, show (999 : Nat) = 996 + 3 from rfl, m_shortsIs h2, g3, if_pos rfl, qB_some, psh_some, b_X12_oneMan_5, if_neg (by decide), b_X12_oneMan_16, show 996 + 3 = 906 + 93 from rfl, f1, qB_some, psh_some, b_X12_oneMan_21]
  · have g2 : rfR v a < 0 := by
      unfold rfR at g ⊢
      by_cases y : 0 ≤ a ∧ a < 6
      · rw [if_pos y] at g ⊢
        by_cases y2 : v 53 a.toNat = -1
        · rw [if_pos y2]
          decide
        · rw [if_neg y2] at g ⊢
          by_cases y3 : v 53 a.toNat = 1
          · rw [if_pos y3] at g
            omega
          · rw [if_neg y3]
            decide
      · rw [if_neg y]
        decide
    refine opR_no (r := rfR v a) h ?_ ?_
    · rw [e_X11_oneMan, b_X11_oneMan_0, show (999 : Nat) = 996 + 3 from rfl, k_refusalOfRow, qB_some, psh_some, b_X11_oneMan_9, if_neg g, b_X11_oneMan_14]
    · rw [e_X12_oneMan, b_X12_oneMan_0, show (999 : Nat) = 996 + 3 from rfl, m_shortsIs h, if_neg g, qB_some, psh_some, b_X12_oneMan_5, if_pos g2, b_X12_oneMan_8, m_shortsIs h, if_neg g, qB_some, psh_some, b_X12_oneMan_13, b_X12_oneMan_21]
end OTQ
end
section
/-! where: both end, and the relation is kept (the answers may differ: STATE or 0) -/
section OTR
variable {L : Nat} {xs : Nat → Int} {d : Nat} {v w : Nat → Nat → Int} {E : Nat → Nat → Int → Prop} {P K n : Nat} {q : Nat → Int}
/-- both end, and the relation is kept -/
def opE (L : Nat) (xs : Nat → Int) (v : Nat → Nat → Int) (y1 y2 t : Nat) (as : List pm_V) : Prop := ∃ r1 r2 v1 v2, qE L xs 1000 y1 ((2, 0) :: as) (qS v) = some (some (t, r1), qS v1) ∧ qE L xs 1000 y2 ((2, 63) :: as) (qS v1) = some (some (t, r2), qS v2) ∧ rlR v2
theorem k_lastMinute (h : rowS v K n q) (hS : rlS v) : ∃ z : Int, qE L xs (d + 6) nX7_lastMinute [(2, 52), (0, (K : Int))] (qS v) = some (some (0, z), qS v) := by
  have hK := h.1
  have n60 := h.2.1
  rw [show d + 6 = d + 2 + 3 + 1 from rfl, e_X7_lastMinute, b_X7_lastMinute_0, cr_sizeOf K h.1, h.2.2.2.1, qB_some, psh_some, b_X7_lastMinute_5]
  by_cases g : Int.tmod (n : Int) 2 = 0
  · rw [if_pos g, b_X7_lastMinute_12, w32_id (by omega) (by omega)]
    by_cases g2 : n = 0
    · have e : qE L xs (d + 2 + 3) nX8_get [(2, 52), (0, (K : Int)), (0, (n : Int) - 1)] (qS v) = some (some (1, 0), qS v) := by
        rw [show d + 2 + 3 = d + 4 + 1 from rfl, e_X8_get, b_X8_get_0, cr_hasElements hS K hK _ 1 (by omega) (by decide), qB_some, psh_some, b_X8_get_7, zb_0, if_neg (by omega), b_X8_get_21, b_X8_get_22]
      rw [e, qB_some, psh_some, b_X7_lastMinute_20, b_X7_lastMinute_25]
      exact ⟨_, rfl⟩
    · have e := rowS_get (L := L) (xs := xs) (d := d) h hS (i := n - 1) (by omega)
      rw [show ((n - 1 : Nat) : Int) = (n : Int) - 1 by omega] at e
      rw [show d + 2 + 3 = d + 5 from rfl, e, qB_some, psh_some, b_X7_lastMinute_20, b_X7_lastMinute_25]
      exact ⟨_, rfl⟩
  · rw [if_neg g, b_X7_lastMinute_24, b_X7_lastMinute_25]
    exact ⟨_, rfl⟩
/-- where there is no two that can't be, and there are twos, the last one's place is there -/
theorem frs_last (hn : 0 < n) (h : frs E P q n (-2)) : ∃ k, n = 2 * k + 2 ∧ 0 ≤ q (2 * k) ∧ q (2 * k) < (P : Int) := by
  rcases h with ⟨-, h⟩ | ⟨k, h, -⟩
  · have a := h ((n - 1) / 2) (by omega)
    unfold unl at a
    refine ⟨(n - 1) / 2, by omega, by omega, by omega⟩
  · omega
theorem k_lastPlace (h : rowS v K n q) (hS : rlS v) {k : Nat} (hk : n = 2 * k + 2) : qE L xs (d + 6) nX7_lastPlace [(2, 52), (0, (K : Int))] (qS v) = some (some (0, q (2 * k)), qS v) := by
  have n60 := h.2.1
  have rk := h.2.2.2.2.2.2 (2 * k) (by omega)
  have e := rowS_get (L := L) (xs := xs) (d := d) h hS (i := 2 * k) (by omega)
  rw [show d + 6 = d + 2 + 3 + 1 from rfl, e_X7_lastPlace, b_X7_lastPlace_0, cr_sizeOf K h.1, h.2.2.2.1, qB_some, psh_some, b_X7_lastPlace_7, show Int.tdiv (n : Int) 2 = (k : Int) + 1 by rw [Int.tdiv_eq_ediv_of_nonneg (by omega)]; omega, w32_id (z := (k : Int) + 1) (by omega) (by omega), w32_id (z := ((k : Int) + 1) * 2) (by omega) (by omega), w32_id (by omega) (by omega), show ((k : Int) + 1) * 2 - 2 = ((2 * k : Nat) : Int) by omega, show d + 2 + 3 = d + 5 from rfl, e, qB_some, psh_some, b_X7_lastPlace_16, w32_id (by omega) (by omega)]
theorem lp_mwhere (hr : rowS v K n q) (hn : 0 < n) (hY : 2 * v 64 140 = (P : Int)) (hP60 : P ≤ 60) (m x3 : Int) : ∀ (j i : Nat) (s : Int) (u7 : pm_V), i + j = P → ∃ r, qG L xs (d + 1) CX12_where 134 [(2, 63), (0, (K : Int)), (0, m), (0, x3), (0, (n : Int)), (0, s), (0, (i : Int)), u7] [] (qS v) = some (some (0, r), qS v)
  | 0, i, s, u7, hj => by
    refine ⟨s, ?_⟩
    rw [b_X12_where_134, c_yardMany, qB_some, psh_some, b_X12_where_141, w32_id (by omega) (by omega), if_neg (by omega), b_X12_where_207]
  | j + 1, i, s, u7, hj => by
    have n60 := hr.2.1
    have e := rowS_item (L := L) (xs := xs) (d := d) hr (i := n - 1) (by omega)
    rw [show ((n - 1 : Nat) : Int) = (n : Int) - 1 by omega] at e
    have nx : ∀ (s : Int) (x7 : Int), ∃ r, qG L xs (d + 1) CX12_where 134 [(2, 63), (0, (K : Int)), (0, m), (0, x3), (0, (n : Int)), (0, s), (0, w32 ((i : Int) + 1)), (0, x7)] [] (qS v) = some (some (0, r), qS v) := fun s x7 => by
      rw [w32_id (by omega) (by omega), show (i : Int) + 1 = ((i + 1 : Nat) : Int) by omega]
      exact lp_mwhere hr hn hY hP60 m x3 j (i + 1) s _ (by omega)
    have s97 : ∀ x7 : Int, ∃ r, qG L xs (d + 1) CX12_where 197 [(2, 63), (0, (K : Int)), (0, m), (0, x3), (0, (n : Int)), (0, s), (0, (i : Int)), (0, x7)] [(0, s)] (qS v) = some (some (0, r), qS v) := fun x7 => by
      rw [b_X12_where_197, b_X12_where_198]
      exact nx _ _
    have s93 : ∀ x7 : Int, ∃ r, qG L xs (d + 1) CX12_where 193 [(2, 63), (0, (K : Int)), (0, m), (0, x3), (0, (n : Int)), (0, s), (0, (i : Int)), (0, x7)] [(0, s)] (qS v) = some (some (0, r), qS v) := fun x7 => by
      rw [b_X12_where_193, b_X12_where_198]
      exact nx _ _
    have s74 : ∀ y : Int, ∃ r, qG L xs (d + 1) CX12_where 174 [(2, 63), (0, (K : Int)), (0, m), (0, x3), (0, (n : Int)), (0, s), (0, (i : Int)), u7] [(0, y)] (qS v) = some (some (0, r), qS v) := fun y => by
      rw [b_X12_where_174]
      by_cases z : y = 0
      · rw [if_pos z]
        exact s97 _
      · rw [if_neg z, b_X12_where_183]
        by_cases z2 : x3 < 0
        · rw [if_pos z2]
          exact s93 _
        · rw [if_neg z2, b_X12_where_187]
          by_cases z3 : x3 = (i : Int)
          · rw [if_pos z3]
            exact s93 _
          · rw [if_neg z3]
            exact s97 _
    rw [b_X12_where_134, c_yardMany, qB_some, psh_some, b_X12_where_141, w32_id (z := 2 * v 64 140) (by omega) (by omega), if_pos (by omega), b_X12_where_145, if_pos (by omega), Int.toNat_natCast, b_X12_where_152, w32_id (z := (n : Int) - 1) (by omega) (by omega), e, qB_some, psh_some, b_X12_where_164, lc_gt]
    generalize w64 (m - q (n - 1)) = z0
    by_cases z : z0 < v 75 i
    · rw [if_pos z, b_X12_where_173]
      exact s74 _
    · rw [if_neg z, b_X12_where_169]
      exact s74 _
/-- the class, where the shelf holds a row of shorts and m and place are as said -/
theorem k_where (h : rlR v) (hr : rowS v K n q) (m x : Int) (hm : 0 ≤ m ∧ m ≤ 9999) (hx : x = -1 ∨ (0 ≤ x ∧ x < 2 * v 11 0)) : ∃ r v1, qG L xs 999 CX11_where 48 [(2, 0), (0, (K : Int)), (0, m), (0, x), (0, 0), (9, 0), (9, 0)] [] (qS v) = some (some (0, r), qS v1) ∧ fW v v1 := by
  have hK := hr.1
  have n60 := hr.2.1
  have hLL := rW_L h.1
  obtain ⟨P, hP⟩ : ∃ P : Nat, 2 * v 11 0 = (P : Int) := ⟨(2 * v 11 0).toNat, by omega⟩
  obtain ⟨z, e0⟩ := k_lastMinute (L := L) (xs := xs) (d := 993) hr h.2.2.2.2.2.2.2.1
  obtain ⟨v1, v2, r, S, e1, e2, e3, e4, e5, e6⟩ := k_lookS (L := L) (xs := xs) (d := 989) h hr hP
  rw [b_X11_where_48, show (999 : Nat) = 993 + 6 from rfl, e0, qB_some, psh_some, b_X11_where_57]
  generalize w32 (m - z) = x5
  by_cases g1 : x5 < 0
  · rw [if_pos g1, b_X11_where_65]
    exact ⟨_, _, rfl, fW_r v⟩
  · rw [if_neg g1, b_X11_where_68, show 993 + 6 = 989 + 10 from rfl, e1, qB_some, psh_none, b_X11_where_83, e2, qB_some, psh_some, b_X11_where_95]
    by_cases g2 : r = -2
    · have hr2 := rowS_W hr e3
      have hS2 := rlS_W h.2.2.2.2.2.2.2.1 e3
      rw [if_pos g2, b_X11_where_102, show 989 + 10 = 996 + 3 from rfl, cr_sizeOf K hK, hr2.2.2.2.1, qB_some, psh_some, b_X11_where_110]
      by_cases g3 : (n : Int) = 0
      · rw [if_pos g3, b_X11_where_113]
        by_cases g4 : x = -1
        · rw [if_pos g4, b_X11_where_118, show 996 + 3 = 997 + 2 from rfl, c_placesNow (by rw [fW_c e3 (c := 11) (by omega)]; omega) (by rw [fW_c e3 (c := 11) (by omega)]; omega), qB_some, psh_some, b_X11_where_125, b_X11_where_129]
          exact ⟨_, _, rfl, e3⟩
        · rw [if_neg g4, b_X11_where_128, b_X11_where_129]
          exact ⟨_, _, rfl, e3⟩
      · rw [g2] at e6
        obtain ⟨k, k1, k2, k3⟩ := frs_last (by omega) e6
        obtain ⟨s, hs⟩ : ∃ s : Nat, q (2 * k) = (s : Int) := ⟨(q (2 * k)).toNat, by omega⟩
        obtain ⟨v3, f1, f2, f3⟩ := c_from (L := L) (xs := xs) (d := 996) e4 e5 (show s < P by omega)
        have hw3 : fW v v3 := fW_t e3 (fW_own (fun c hc => f2 c (by omega)))
        rw [if_neg g3, b_X11_where_130, show 996 + 3 = 993 + 6 from rfl, k_lastPlace hr2 hS2 k1, qB_some, psh_some, b_X11_where_142, hs, show 993 + 6 = 996 + 3 from rfl, f1, qB_some, psh_none, b_X11_where_146]
        have w3 := WOK_cg f2 e4
        by_cases g4 : x = -1
        · rw [if_pos g4, b_X11_where_161, show 996 + 3 = 998 + 1 from rfl, c_count _ rfl w3.2.2.1 (by omega), qB_some, psh_some, b_X11_where_170]
          exact ⟨_, _, rfl, hw3⟩
        · obtain ⟨p, hp⟩ : ∃ p : Nat, x = (p : Int) := ⟨x.toNat, by omega⟩
          rw [if_neg g4, b_X11_where_171, hp, show 996 + 3 = 997 + 2 from rfl, c_minutes w3 (show p < P by omega), qB_some, psh_some, b_X11_where_179]
          by_cases g5 : pm_min x5 9998 < v3 34 p
          · rw [if_pos g5, b_X11_where_188, b_X11_where_189]
            exact ⟨_, _, rfl, hw3⟩
          · rw [if_neg g5, b_X11_where_184, b_X11_where_189]
            exact ⟨_, _, rfl, hw3⟩
    · rw [if_neg g2, b_X11_where_100]
      exact ⟨_, _, rfl, e3⟩
/-- the reference, likewise -/
theorem m_where (h : rlR v) (hr : rowS v K n q) (m x : Int) : ∃ r v1, qG L xs 999 CX12_where 51 [(2, 63), (0, (K : Int)), (0, m), (0, x), (9, 0), (9, 0), (9, 0), (9, 0)] [] (qS v) = some (some (0, r), qS v1) ∧ fP v v1 := by
  have hK := hr.1
  have n60 := hr.2.1
  have hLL := rW_L h.1
  have hML := rM_L h.1
  obtain ⟨P, hP⟩ : ∃ P : Nat, 2 * v 11 0 = (P : Int) := ⟨(2 * v 11 0).toNat, by omega⟩
  obtain ⟨v2, r, e1, e2, e3, e4, e5⟩ := m_lookS (L := L) (xs := xs) (d := 906) h hr hP
  have hr2 : rowS v2 K n q := by
    have n := e2.1
    unfold rowS szS at hr ⊢
    rw [fN_c n (c := 53) (by omega), fN_c n (c := 55) (by omega), fN_c n (c := 86) (by omega), fN_c n (c := 87) (by omega), fN_c n (c := 57 + K) (by omega), fN_c n (c := 88) (by omega)]
    exact hr
  have h87 := hr2.2.2.2.2.2.1
  have k2 : 2 * v2 64 140 = (P : Int) := by rw [fN_c e2.1 (c := 64) (by omega)]; omega
  rw [b_X12_where_51, show (999 : Nat) = 906 + 93 from rfl, e1, qB_some, psh_some, b_X12_where_56]
  by_cases g2 : r = -2
  · rw [g2] at e5
    rw [if_pos g2, b_X12_where_63, if_pos (by omega), Int.toNat_natCast, h87, b_X12_where_69]
    by_cases g3 : 0 < n
    · obtain ⟨k, k1, k3, k4⟩ := frs_last g3 e5
      obtain ⟨s, hs⟩ : ∃ s : Nat, q (2 * k) = (s : Int) := ⟨(q (2 * k)).toNat, by omega⟩
      obtain ⟨v3, f1, f2, f3⟩ := m_from (L := L) (xs := xs) (d := 997) (by omega) k2 e4 e3 (show s < P by omega)
      have i1 := rowS_item (L := L) (xs := xs) (d := 998) hr2 (i := n - 1) (by omega)
      rw [show ((n - 1 : Nat) : Int) = (n : Int) - 1 by omega] at i1
      have i2 := rowS_item (L := L) (xs := xs) (d := 998) hr2 (i := 2 * k) (by omega)
      rw [show ((2 * k : Nat) : Int) = (n : Int) - 2 by omega, hs] at i2
      obtain ⟨r2, lp⟩ := lp_mwhere (L := L) (xs := xs) (d := 998) (rowS_75 hr2 f2) g3 (by rw [f2 64 (by omega) (by omega)]; exact k2) (by omega) m x P 0 0 (9, 0) (by omega)
      rw [if_pos (by omega), b_X12_where_76, w32_id (z := (n : Int) - 1) (by omega) (by omega), show 906 + 93 = 998 + 1 from rfl, i1, qB_some, psh_some, b_X12_where_87, lc_lt]
      by_cases g4 : m < q (n - 1)
      · rw [if_pos g4, b_X12_where_91]
        exact ⟨_, _, rfl, e2⟩
      · rw [if_neg g4, b_X12_where_94, if_neg (by omega), b_X12_where_114, w32_id (z := (n : Int) - 2) (by omega) (by omega), i2, qB_some, psh_some, b_X12_where_124, w32_id (z := (s : Int)) (by omega) (by omega), show 998 + 1 = 997 + 2 from rfl, f1, qB_some, psh_none, b_X12_where_128]
        exact ⟨r2, v3, lp, fP_t e2 (fP_75 f2)⟩
    · rw [if_neg (by omega), b_X12_where_94, if_pos (by omega), b_X12_where_99]
      by_cases g4 : x < 0
      · rw [if_pos g4, b_X12_where_103, show 906 + 93 = 998 + 1 from rfl, c_yardMany, qB_some, psh_some, b_X12_where_108, b_X12_where_113]
        exact ⟨_, _, rfl, e2⟩
      · rw [if_neg g4, b_X12_where_112, b_X12_where_113]
        exact ⟨_, _, rfl, e2⟩
  · rw [if_neg g2, b_X12_where_61]
    exact ⟨_, _, rfl, e2⟩
theorem rfR_0 {a : Int} (g : rfR v a = 0) : ∃ K : Nat, a = (K : Int) ∧ K < 6 ∧ v 53 K = 1 := by
  unfold rfR at g
  by_cases y : 0 ≤ a ∧ a < 6
  · rw [if_pos y] at g
    by_cases y2 : v 53 a.toNat = -1
    · rw [if_pos y2] at g
      omega
    · rw [if_neg y2] at g
      by_cases y3 : v 53 a.toNat = 1
      · exact ⟨a.toNat, by omega, by omega, y3⟩
      · rw [if_neg y3] at g
        omega
  · rw [if_neg y] at g
    omega
theorem rfR_n {a : Int} (g : rfR v a ≠ 0) : rfR v a < 0 ∧ (rfR v a = -1 ↔ ¬ (0 ≤ a ∧ a < 6)) := by
  unfold rfR at g ⊢
  by_cases y : 0 ≤ a ∧ a < 6
  · rw [if_pos y] at g ⊢
    by_cases y2 : v 53 a.toNat = -1
    · rw [if_pos y2]
      omega
    · rw [if_neg y2] at g ⊢
      by_cases y3 : v 53 a.toNat = 1
      · rw [if_pos y3] at g
        omega
      · rw [if_neg y3]
        omega
  · rw [if_neg y]
    omega
theorem opr_where (h : rlR v) (a m x : Int) : opE L xs v nX11_where nX12_where 0 [(0, a), (0, m), (0, x)] := by
  have hLL := rW_L h.1
  have hML := rM_L h.1
  -- the class up to its row
  have A : ∃ r1 v1, qE L xs 1000 nX11_where [(2, 0), (0, a), (0, m), (0, x)] (qS v) = some (some (0, r1), qS v1) ∧ fW v v1 := by
    rw [e_X11_where, b_X11_where_0]
    by_cases g1 : m < 0
    · rw [if_pos g1, b_X11_where_27]
      exact ⟨_, _, rfl, fW_r v⟩
    · rw [if_neg g1, b_X11_where_4]
      by_cases g2 : 9999 < m
      · rw [if_pos g2, b_X11_where_27]
        exact ⟨_, _, rfl, fW_r v⟩
      · rw [if_neg g2, b_X11_where_11]
        have t29 : (x = -1 ∨ (0 ≤ x ∧ x < 2 * v 11 0)) → ∃ r1 v1, qG L xs 999 CX11_where 29 [(2, 0), (0, a), (0, m), (0, x), (9, 0), (9, 0), (9, 0)] [] (qS v) = some (some (0, r1), qS v1) ∧ fW v v1 := fun hx => by
          rw [b_X11_where_29, show (999 : Nat) = 996 + 3 from rfl, k_refusalOfRow, qB_some, psh_some, b_X11_where_38]
          by_cases g : rfR v a = 0
          · obtain ⟨K, rfl, k1, k2⟩ := rfR_0 g
            obtain ⟨n, q, hr⟩ := rl_rowS h k1 k2
            rw [if_pos g, g]
            exact k_where h hr m x (by omega) hx
          · rw [if_neg g, b_X11_where_45]
            exact ⟨_, _, rfl, fW_r v⟩
        by_cases g3 : x = -1
        · rw [if_pos g3]
          exact t29 (Or.inl g3)
        · rw [if_neg g3, b_X11_where_16, show (999 : Nat) = 996 + 3 from rfl, c_hasPlace (by omega) (by omega), qB_some, psh_some, b_X11_where_24, zb_0]
          by_cases g4 : 0 ≤ x ∧ x < 2 * v 11 0
          · rw [if_pos g4]
            exact t29 (Or.inr g4)
          · rw [if_neg g4, b_X11_where_27]
            exact ⟨_, _, rfl, fW_r v⟩
  obtain ⟨r1, v1, A1, A2⟩ := A
  have h1 := rlR_fW A2 h
  have hML1 := rM_L h1.1
  have hLL1 := rW_L h1.1
  have B : ∃ r2 v2, qE L xs 1000 nX12_where [(2, 63), (0, a), (0, m), (0, x)] (qS v1) = some (some (0, r2), qS v2) ∧ fP v1 v2 := by
    rw [e_X12_where, b_X12_where_0, show (999 : Nat) = 996 + 3 from rfl, m_shortsIs h1, qB_some, psh_some, b_X12_where_5]
    have t37 : ∃ r2 v2, qG L xs (996 + 3) CX12_where 37 [(2, 63), (0, a), (0, m), (0, x), (9, 0), (9, 0), (9, 0), (9, 0)] [] (qS v1) = some (some (0, r2), qS v2) ∧ fP v1 v2 := by
      rw [b_X12_where_37, m_shortsIs h1, qB_some, psh_some, b_X12_where_42]
      by_cases g : rfR v1 a = 0
      · obtain ⟨K, rfl, k1, k2⟩ := rfR_0 g
        obtain ⟨n, q, hr⟩ := rl_rowS h1 k1 k2
        have e : (if rfR v1 (K : Int) = 0 then (1 : Int) else rfR v1 (K : Int)) = 1 := if_pos g
        rw [e, if_neg (by decide)]
        exact m_where h1 hr m x
      · have e : (if rfR v1 a = 0 then (1 : Int) else rfR v1 a) = rfR v1 a := if_neg g
        rw [e, if_pos (rfR_n g).1, b_X12_where_45, m_shortsIs h1, e, qB_some, psh_some, b_X12_where_50]
        exact ⟨_, _, rfl, fP_r v1⟩
    generalize (if rfR v1 a = 0 then (1 : Int) else rfR v1 a) = z0
    by_cases g0 : z0 = -1
    · rw [if_pos g0, b_X12_where_35]
      exact ⟨_, _, rfl, fP_r v1⟩
    · rw [if_neg g0, b_X12_where_9, show 996 + 3 = 998 + 1 from rfl, c_within, qB_some, psh_some, b_X12_where_18, zb_0]
      by_cases g1 : 0 ≤ m ∧ m ≤ 9999
      · rw [if_pos g1, b_X12_where_21]
        by_cases g3 : x = -1
        · rw [if_pos g3]
          exact t37
        · rw [if_neg g3, b_X12_where_26, show 998 + 1 = 997 + 2 from rfl, c_isPlace (by omega) (by omega), qB_some, psh_some, b_X12_where_32, zb_0]
          by_cases g4 : 0 ≤ x ∧ x < 2 * v1 64 140
          · rw [if_pos g4]
            exact t37
          · rw [if_neg g4, b_X12_where_35]
            exact ⟨_, _, rfl, fP_r v1⟩
      · rw [if_neg g1, b_X12_where_35]
        exact ⟨_, _, rfl, fP_r v1⟩
  obtain ⟨r2, v2, B1, B2⟩ := B
  exact ⟨r1, r2, v1, v2, A1, B1, rlR_fP B2 h1⟩
end OTR
end
