/-! SEEN: the first two that can't be, on both sides -/
section OTP
variable {L : Nat} {xs : Nat → Int} {d : Nat} {v w : Nat → Nat → Int} {E : Nat → Nat → Int → Prop} {P K n : Nat} {q : Nat → Int}
/-- he can have come in time -/
def inT (E : Nat → Nat → Int → Prop) (q : Nat → Int) (k : Nat) : Prop := ∃ m z, Wk E m (q (2 * k - 2)).toNat (q (2 * k)).toNat z ∧ z ≤ q (2 * k + 1) - q (2 * k - 1)
/-- the k-th two can't be -/
def unl (E : Nat → Nat → Int → Prop) (P : Nat) (q : Nat → Int) (n k : Nat) : Prop := n ≤ 2 * k + 1 ∨ ¬ (0 ≤ q (2 * k) ∧ q (2 * k) < (P : Int)) ∨ ¬ (0 ≤ q (2 * k + 1) ∧ q (2 * k + 1) ≤ 9999) ∨ (0 < k ∧ ¬ inT E q k)
/-- the first such two, or none (-2) -/
def frs (E : Nat → Nat → Int → Prop) (P : Nat) (q : Nat → Int) (n : Nat) (r : Int) : Prop := (r = -2 ∧ ∀ k, 2 * k < n → ¬ unl E P q n k) ∨ ∃ k : Nat, r = (k : Int) ∧ 2 * k < n ∧ unl E P q n k ∧ ∀ j, j < k → ¬ unl E P q n j
theorem frs_one {r s : Int} (h : frs E P q n r) (g : frs E P q n s) : r = s := by
  rcases h with ⟨h1, h2⟩ | ⟨k, h1, h2, h3, h4⟩
  · rcases g with ⟨g1, g2⟩ | ⟨j, g1, g2, g3, g4⟩
    · rw [h1, g1]
    · exact absurd g3 (h2 j g2)
  · rcases g with ⟨g1, g2⟩ | ⟨j, g1, g2, g3, g4⟩
    · exact absurd h3 (g2 k h2)
    · have a : ¬ j < k := fun z => h4 j z g3
      have b : ¬ k < j := fun z => g4 k z h3
      rw [h1, g1, show j = k by omega]
theorem Lst_t {s p : Nat} {I x : Int} (h : Lst E s p I x) (t : Int) (hI : I = 9999 ∨ I = -2) : (0 ≤ x ∧ x < 9999 ∧ x ≤ t) ↔ ∃ m z, Wk E m s p z ∧ z ≤ t := by
  rcases h with ⟨h1, h2, ⟨m, h3⟩, h4⟩ | ⟨h1, h2⟩
  · refine ⟨fun a => ⟨m, x, h3, a.2.2⟩, fun ⟨m, z, a, b⟩ => ?_⟩
    have := h4 m z a
    omega
  · refine ⟨fun a => ?_, fun ⟨m, z, a, b⟩ => absurd a (h2 m z)⟩
    omega
/-- a row of shorts on shelf K, as both hold it -/
def rowS (v : Nat → Nat → Int) (K n : Nat) (q : Nat → Int) : Prop := K < 6 ∧ n ≤ 60 ∧ v 53 K = 1 ∧ szS v K = (n : Int) ∧ v 86 K = 51 ∧ v 87 K = (n : Int) ∧ ∀ i, i < 60 → v (57 + K) i = q i ∧ v 88 (60 * K + i) = q i ∧ -32768 ≤ q i ∧ q i ≤ 32767
theorem rowS_get (h : rowS v K n q) (hS : rlS v) {i : Nat} (hi : i < n) : qE L xs (d + 5) nX8_get [(2, 52), (0, (K : Int)), (0, (i : Int))] (qS v) = some (some (1, q i), qS v) := by
  obtain ⟨h1, h2, h3, h4, h5, h6, h7⟩ := h
  rw [cr_get hS K i h1 (by omega), (h7 i (by omega)).1]
theorem rowS_item (h : rowS v K n q) {i : Nat} (hi : i < n) : qE L xs (d + 1) nX12_itemAt [(2, 63), (0, (K : Int)), (0, (i : Int))] (qS v) = some (some (1, q i), qS v) := by
  obtain ⟨h1, h2, h3, h4, h5, h6, h7⟩ := h
  rw [e_X12_itemAt, b_X12_itemAt_0, w32_id (z := 60 * (K : Int)) (by omega) (by omega), w32_id (z := 60 * (K : Int) + (i : Int)) (by omega) (by omega), if_pos (by omega), show (60 * (K : Int) + (i : Int)).toNat = 60 * K + i by omega, (h7 i (by omega)).2.1, b_X12_itemAt_11]
theorem rowS_W (h : rowS v K n q) (hw : fW v w) : rowS w K n q := by
  have h1 := h.1
  unfold rowS szS at h ⊢
  rw [fW_c hw (c := 53) (by omega), fW_c hw (c := 55) (by omega), fW_c hw (c := 86) (by omega), fW_c hw (c := 87) (by omega), fW_c hw (c := 57 + K) (by omega), fW_c hw (c := 88) (by omega)]
  exact h
theorem rlS_W (h : rlS v) (hw : fW v w) : rlS w := rlS_cg (fun c k a => by
  have : w c = v c := fW_c hw (by unfold dsS at a; omega)
  rw [this]) h
/-- the class: a two is as said -/
theorem k_said {S : Nat} (h : rowS v K n q) (hS : rlS v) (hL : WOK v S P) {i : Nat} (hi : i + 1 < n) : qE L xs (d + 6) nX7_isAsSaid [(2, 52), (0, (K : Int)), (0, (i : Int)), (2, 29)] (qS v) = some (some (0, zb ((0 ≤ q i ∧ q i < (P : Int)) ∧ 0 ≤ q (i + 1) ∧ q (i + 1) ≤ 9999)), qS v) := by
  have h2 := h.2.1
  have r0 := h.2.2.2.2.2.2 i (by omega)
  have g1 : qE L xs (d + 5) nX8_get [(2, 52), (0, (K : Int)), (0, (i : Int) + 1)] (qS v) = some (some (1, q (i + 1)), qS v) := rowS_get h hS (i := i + 1) hi
  rw [show d + 6 = d + 5 + 1 from rfl, e_X7_isAsSaid, b_X7_isAsSaid_0, w32_id (by omega) (by omega), g1, qB_some, psh_some, b_X7_isAsSaid_8, rowS_get h hS (i := i) (by omega), qB_some, psh_some, b_X7_isAsSaid_17, w32_id (by omega) (by omega), show d + 5 = d + 4 + 1 from rfl, c_isThere hL, qB_some, psh_some, b_X7_isAsSaid_21, zb_0]
  by_cases z1 : 0 ≤ q i ∧ q i < (P : Int)
  · rw [if_pos z1, b_X7_isAsSaid_24, lc_lt]
    by_cases z2 : q (i + 1) < 0
    · rw [if_pos z2, b_X7_isAsSaid_44, b_X7_isAsSaid_45, if_pos (Or.inl rfl), zb_f (by omega)]
    · rw [if_neg z2, b_X7_isAsSaid_31, lc_gt]
      by_cases z3 : 9999 < q (i + 1)
      · rw [if_pos z3, b_X7_isAsSaid_44, b_X7_isAsSaid_45, if_pos (Or.inl rfl), zb_f (by omega)]
      · rw [if_neg z3, b_X7_isAsSaid_40, b_X7_isAsSaid_45, if_pos (Or.inr rfl), zb_t (by omega)]
  · rw [if_neg z1, b_X7_isAsSaid_44, b_X7_isAsSaid_45, if_pos (Or.inl rfl), zb_f (fun t => z1 t.1)]
/-- the class: he can have come in time -/
theorem k_inTime {S k : Nat} (h : rowS v K n q) (hS : rlS v) (hL : WOK v S P) (hE : EC v S (-1) = E) (hk : 0 < k) (hi : 2 * k + 1 < n) (h1 : 0 ≤ q (2 * k - 2) ∧ q (2 * k - 2) < (P : Int)) (h2 : 0 ≤ q (2 * k) ∧ q (2 * k) < (P : Int)) : ∃ v' z, qE L xs (d + 6) nX7_isInTime [(2, 52), (0, (K : Int)), (0, ((2 * k : Nat) : Int)), (2, 29)] (qS v) = some (some (0, z), qS v') ∧ (∀ c, c ≠ 34 → v' c = v c) ∧ (z = 0 ∨ z = 1) ∧ (z = 1 ↔ inT E q k) := by
  have n60 := h.2.1
  obtain ⟨s, hs⟩ : ∃ s : Nat, q (2 * k - 2) = (s : Int) := ⟨(q (2 * k - 2)).toNat, by omega⟩
  obtain ⟨p, hp⟩ : ∃ p : Nat, q (2 * k) = (p : Int) := ⟨(q (2 * k)).toNat, by omega⟩
  have ra := h.2.2.2.2.2.2 (2 * k + 1) (by omega)
  have rb := h.2.2.2.2.2.2 (2 * k - 1) (by omega)
  have rc := h.2.2.2.2.2.2 (2 * k - 2) (by omega)
  have rd := h.2.2.2.2.2.2 (2 * k) (by omega)
  obtain ⟨v', e1, e2, e3⟩ := c_from (L := L) (xs := xs) (d := d + 2) hL hE (show s < P by omega)
  have hw : fW v v' := fW_own (fun c hc => e2 c (by omega))
  have g1 : qE L xs (d + 5) nX8_get [(2, 52), (0, (K : Int)), (0, ((2 * k : Nat) : Int) + 1)] (qS v) = some (some (1, q (2 * k + 1)), qS v) := rowS_get h hS (i := 2 * k + 1) hi
  have g2 : qE L xs (d + 5) nX8_get [(2, 52), (0, (K : Int)), (0, ((2 * k : Nat) : Int) - 1)] (qS v) = some (some (1, q (2 * k - 1)), qS v) := by
    have := rowS_get (L := L) (xs := xs) (d := d) h hS (i := 2 * k - 1) (by omega)
    rw [show ((2 * k - 1 : Nat) : Int) = ((2 * k : Nat) : Int) - 1 by omega] at this
    exact this
  have g3 : qE L xs (d + 5) nX8_get [(2, 52), (0, (K : Int)), (0, ((2 * k : Nat) : Int) - 2)] (qS v) = some (some (1, (s : Int)), qS v) := by
    have := rowS_get (L := L) (xs := xs) (d := d) h hS (i := 2 * k - 2) (by omega)
    rw [show ((2 * k - 2 : Nat) : Int) = ((2 * k : Nat) : Int) - 2 by omega, hs] at this
    exact this
  have g4 : qE L xs (d + 5) nX8_get [(2, 52), (0, (K : Int)), (0, ((2 * k : Nat) : Int))] (qS v') = some (some (1, (p : Int)), qS v') := by
    have := rowS_get (L := L) (xs := xs) (d := d) (rowS_W h hw) (rlS_W hS hw) (i := 2 * k) (by omega)
    rw [hp] at this
    exact this
  have m1 : qE L xs (d + 5) nX10_minutes [(2, 29), (0, (p : Int))] (qS v') = some (some (0, v' 34 p), qS v') := c_minutes (d := d + 3) (WOK_cg e2 hL) (show p < P by omega)
  have t := Lst_t (e3 p (by omega)) (q (2 * k + 1) - q (2 * k - 1)) (Or.inl rfl)
  have x0 : 0 ≤ v' 34 p := by
    rcases e3 p (by omega) with ⟨y, -⟩ | ⟨y, -⟩ <;> omega
  have hT : inT E q k ↔ ∃ m z, Wk E m s p z ∧ z ≤ q (2 * k + 1) - q (2 * k - 1) := by
    unfold inT
    rw [hs, hp]
    exact Iff.rfl
  rw [show d + 6 = d + 5 + 1 from rfl, e_X7_isInTime, b_X7_isInTime_0, w32_id (z := ((2 * k : Nat) : Int) + 1) (by omega) (by omega), g1, qB_some, psh_some, b_X7_isInTime_8, w32_id (z := ((2 * k : Nat) : Int) - 1) (by omega) (by omega), g2, qB_some, psh_some, b_X7_isInTime_16, w32_id (z := ((2 * k : Nat) : Int) - 2) (by omega) (by omega), g3, qB_some, psh_some, b_X7_isInTime_28, w32_id (z := (s : Int)) (by omega) (by omega), show d + 5 = d + 2 + 3 from rfl, e1, qB_some, psh_none, b_X7_isInTime_33, show d + 2 + 3 = d + 5 from rfl, g4, qB_some, psh_some, b_X7_isInTime_40, w32_id (z := (p : Int)) (by omega) (by omega), m1, qB_some, psh_some, b_X7_isInTime_44, w64_id (by omega) (by omega)]
  by_cases z1 : v' 34 p < 9999
  · rw [if_pos z1, b_X7_isInTime_54, lc_gt]
    by_cases z2 : q (2 * k + 1) - q (2 * k - 1) < v' 34 p
    · rw [if_pos z2, b_X7_isInTime_67, b_X7_isInTime_68, if_pos (Or.inl rfl)]
      refine ⟨v', 0, rfl, e2, Or.inl rfl, fun z => absurd z (by decide), fun z => ?_⟩
      have := t.mpr (hT.mp z)
      omega
    · rw [if_neg z2, b_X7_isInTime_63, b_X7_isInTime_68, if_pos (Or.inr rfl)]
      exact ⟨v', 1, rfl, e2, Or.inr rfl, fun _ => hT.mpr (t.mp ⟨x0, z1, by omega⟩), fun _ => rfl⟩
  · rw [if_neg z1, b_X7_isInTime_67, b_X7_isInTime_68, if_pos (Or.inl rfl)]
    refine ⟨v', 0, rfl, e2, Or.inl rfl, fun z => absurd z (by decide), fun z => ?_⟩
    have := t.mpr (hT.mp z)
    omega
theorem k_seen {S : Nat} (hk : K < 6) (n60 : n ≤ 60) : ∀ (m k : Nat) (v : Nat → Nat → Int), n ≤ 2 * k + 2 * m → rowS v K n q → rlS v → WOK v S P → EC v S (-1) = E → (∀ j, j < k → 2 * j < n ∧ ¬ unl E P q n j) → ∃ v' r, qG L xs (d + 6) CX7_firstUnlikely 9 [(2, 52), (0, (K : Int)), (2, 29), (0, (n : Int)), (0, ((2 * k : Nat) : Int))] [] (qS v) = some (some (0, r), qS v') ∧ (∀ c, c ≠ 34 → v' c = v c) ∧ frs E P q n r
  | 0, k, v, hm, h, hS, hL, hE, hj => by
    refine ⟨v, -2, ?_, fun _ _ => rfl, Or.inl ⟨rfl, fun j hj2 => (hj j (by omega)).2⟩⟩
    rw [b_X7_firstUnlikely_9, if_neg (by omega), b_X7_firstUnlikely_61]
  | m + 1, k, v, hm, h, hS, hL, hE, hj => by
    rw [b_X7_firstUnlikely_9]
    by_cases z0 : 2 * k < n
    · rw [if_pos (by omega), b_X7_firstUnlikely_15, w32_id (z := ((2 * k : Nat) : Int) + 1) (by omega) (by omega)]
      have ret : ∀ u : Nat → Nat → Int, unl E P q n k → (∀ c, c ≠ 34 → u c = v c) → ∃ v' r, qG L xs (d + 6) CX7_firstUnlikely 50 [(2, 52), (0, (K : Int)), (2, 29), (0, (n : Int)), (0, ((2 * k : Nat) : Int))] [] (qS u) = some (some (0, r), qS v') ∧ (∀ c, c ≠ 34 → v' c = v c) ∧ frs E P q n r := fun u hu hc => by
        refine ⟨u, (k : Int), ?_, hc, Or.inr ⟨k, rfl, z0, hu, fun j hj2 => (hj j hj2).2⟩⟩
        rw [b_X7_firstUnlikely_50, show Int.tdiv ((2 * k : Nat) : Int) 2 = (k : Int) by rw [Int.tdiv_eq_ediv_of_nonneg (by omega)]; omega, w32_id (by omega) (by omega)]
      by_cases z1 : 2 * k + 1 < n
      · have sd : qE L xs (d + 6) nX7_isAsSaid [(2, 52), (0, (K : Int)), (0, ((2 * k : Nat) : Int)), (2, 29)] (qS v) = _ := k_said h hS hL (i := 2 * k) z1
        rw [if_pos (by omega), b_X7_firstUnlikely_23, sd, qB_some, psh_some, b_X7_firstUnlikely_31, zb_0]
        by_cases z2 : (0 ≤ q (2 * k) ∧ q (2 * k) < (P : Int)) ∧ 0 ≤ q (2 * k + 1) ∧ q (2 * k + 1) ≤ 9999
        · rw [if_pos z2, b_X7_firstUnlikely_34]
          have nx : ∀ u : Nat → Nat → Int, ¬ unl E P q n k → (∀ c, c ≠ 34 → u c = v c) → ∃ v' r, qG L xs (d + 6) CX7_firstUnlikely 55 [(2, 52), (0, (K : Int)), (2, 29), (0, (n : Int)), (0, ((2 * k : Nat) : Int))] [] (qS u) = some (some (0, r), qS v') ∧ (∀ c, c ≠ 34 → v' c = v c) ∧ frs E P q n r := fun u hu hc => by
            have hw : fW v u := fW_own (fun c a => hc c (by omega))
            have hEu : EC u S (-1) = E := by
              rw [← hE]
              unfold EC
              rw [hc 30 (by omega), hc 31 (by omega), hc 32 (by omega), hc 33 (by omega)]
            obtain ⟨v', r, e1, e2, e3⟩ := k_seen hk n60 m (k + 1) u (by omega) (rowS_W h hw) (rlS_W hS hw) (WOK_cg hc hL) hEu (fun j hj2 => by
              by_cases y : j = k
              · rw [y]
                exact ⟨z0, hu⟩
              · exact hj j (by omega))
            refine ⟨v', r, ?_, fun c a => (e2 c a).trans (hc c a), e3⟩
            rw [b_X7_firstUnlikely_55, w32_id (by omega) (by omega), show ((2 * k : Nat) : Int) + 2 = ((2 * (k + 1) : Nat) : Int) by omega]
            exact e1
          by_cases z3 : 0 < k
          · have pv := (hj (k - 1) (by omega)).2
            have pv2 : 0 ≤ q (2 * k - 2) ∧ q (2 * k - 2) < (P : Int) := by
              unfold unl at pv
              rw [show 2 * (k - 1) = 2 * k - 2 by omega] at pv
              omega
            obtain ⟨u, z, e1, e2, e3, e4⟩ := k_inTime (L := L) (xs := xs) (d := d) h hS hL hE z3 z1 pv2 z2.1
            rw [if_pos (by omega), b_X7_firstUnlikely_39, e1, qB_some, psh_some, b_X7_firstUnlikely_47]
            rcases e3 with e3 | e3
            · rw [if_pos e3]
              exact ret u (Or.inr (Or.inr (Or.inr ⟨z3, fun t => by have := e4.mpr t; omega⟩))) e2
            · rw [if_neg (by omega)]
              refine nx u (fun t => ?_) e2
              have it := e4.mp e3
              rcases t with t | t | t | t
              · omega
              · exact t z2.1
              · exact t z2.2
              · exact t.2 it
          · rw [if_neg (by omega)]
            refine nx v (fun t => ?_) (fun _ _ => rfl)
            rcases t with t | t | t | t
            · omega
            · exact t z2.1
            · exact t z2.2
            · exact z3 t.1
        · rw [if_neg z2]
          refine ret v ?_ (fun _ _ => rfl)
          by_cases z3 : 0 ≤ q (2 * k) ∧ q (2 * k) < (P : Int)
          · exact Or.inr (Or.inr (Or.inl (fun t => z2 ⟨z3, t⟩)))
          · exact Or.inr (Or.inl z3)
      · rw [if_neg (by omega)]
        exact ret v (Or.inl (by omega)) (fun _ _ => rfl)
    · refine ⟨v, -2, ?_, fun _ _ => rfl, Or.inl ⟨rfl, fun j hj2 => (hj j (by omega)).2⟩⟩
      rw [if_neg (by omega), b_X7_firstUnlikely_61]
theorem k_firstUnlikely {S : Nat} (h : rowS v K n q) (hS : rlS v) (hL : WOK v S P) (hE : EC v S (-1) = E) : ∃ v' r, qE L xs (d + 7) nX7_firstUnlikely [(2, 52), (0, (K : Int)), (2, 29)] (qS v) = some (some (0, r), qS v') ∧ (∀ c, c ≠ 34 → v' c = v c) ∧ frs E P q n r := by
  obtain ⟨v', r, e1, e2, e3⟩ := k_seen (L := L) (xs := xs) (d := d) h.1 h.2.1 60 0 v (by have := h.2.1; omega) h hS hL hE (fun j hj => absurd hj (Nat.not_lt_zero j))
  refine ⟨v', r, ?_, e2, e3⟩
  rw [show d + 7 = d + 6 + 1 from rfl, e_X7_firstUnlikely, b_X7_firstUnlikely_0, show d + 6 = d + 3 + 3 from rfl, cr_sizeOf K h.1, h.2.2.2.1, qB_some, psh_some, b_X7_firstUnlikely_5]
  exact e1
end OTP
