/-! THE LAW as the class reads it: operands, levels -/
section OTK
variable {L : Nat} {xs : Nat → Int} {d : Nat} {v : Nat → Nat → Int} {b : Nat → Int} {e D : Nat}
def dpK (d o m : Nat) : Nat := d + (7 * (6 - o) + (6 - m) + 10)
def mstK (m : Nat) : Int := if m = 2 then 1 else 120
def kdA (L : Nat) (xs : Nat → Int) (d : Nat) (v : Nat → Nat → Int) (D : Nat) (b : Nat → Int) (e n : Nat) : Prop :=
  ∀ (m o k : Nat) (f : Int) (l : List Int), m ≤ 5 → o ≤ 6 → k ≤ e → f < 0 → l.length ≤ k → 20 * (120 - k) + rkT m < n → qE L xs (dpK d o m) nX5_readLevel [(2, 23), (0, (m : Int)), (0, (o : Int))] (qS (kdS v D (k : Int) f l)) = some (none, qS (kdS v D ((txP b e n m o k f).2.1 : Int) (txP b e n m o k f).2.2 (l ++ (txP b e n m o k f).1)))
def kdO (L : Nat) (xs : Nat → Int) (d : Nat) (v : Nat → Nat → Int) (D : Nat) (b : Nat → Int) (e n : Nat) : Prop :=
  ∀ (o k : Nat) (f : Int) (l : List Int), o ≤ 6 → k ≤ e → f < 0 → l.length ≤ k → 20 * (120 - k) + 2 < n → qE L xs (dpK d o 6) nX5_readOperand [(2, 23), (0, (o : Int))] (qS (kdS v D (k : Int) f l)) = some (none, qS (kdS v D ((txP b e n 5 o k f).2.1 : Int) (txP b e n 5 o k f).2.2 (l ++ (txP b e n 5 o k f).1)))
def kdC (L : Nat) (xs : Nat → Int) (d : Nat) (v : Nat → Nat → Int) (D : Nat) (b : Nat → Int) (e n : Nat) : Prop :=
  ∀ (m o k i : Nat) (f : Int) (l : List Int), m ≤ 4 → o ≤ 6 → k ≤ e → l.length ≤ k → i ≤ k → (m = 2 → i = 0) → 20 * (120 - k) + rkT (10 + m) < n → qG L xs (dpK d o (m + 1)) CX5_readLevel 43 [(2, 23), (0, (m : Int)), (0, (o : Int)), (0, mstK m), (0, if f < 0 ∧ k < e ∧ sgn m (b k) then b k else 0), (0, (i : Int))] [] (qS (kdS v D (if f < 0 ∧ k < e ∧ sgn m (b k) then (k : Int) + 1 else (k : Int)) f l)) = some (none, qS (kdS v D ((txP b e n (10 + m) o k f).2.1 : Int) (txP b e n (10 + m) o k f).2.2 (l ++ (txP b e n (10 + m) o k f).1)))
theorem k_signs {m : Nat} (hm : m ≤ 4) (w : Nat → Nat → Int) : qE L xs (d + 1) nX5_signsOfLevel [(0, (m : Int))] (qS w) = some (some (2, .ofNat (2003 + m)), qS w) := by
  rw [e_X5_signsOfLevel]
  have : m = 0 ∨ m = 1 ∨ m = 2 ∨ m = 3 ∨ m = 4 := by omega
  rcases this with rfl | rfl | rfl | rfl | rfl
  · show qG L xs d CX5_signsOfLevel 0 [(0, 0)] [] (qS w) = _
    rw [b_X5_signsOfLevel_0_v0 (h := rfl), b_X5_signsOfLevel_32]
    rfl
  · show qG L xs d CX5_signsOfLevel 0 [(0, 1)] [] (qS w) = _
    rw [b_X5_signsOfLevel_0_v1 (h := rfl), b_X5_signsOfLevel_35]
    rfl
  · show qG L xs d CX5_signsOfLevel 0 [(0, 2)] [] (qS w) = _
    rw [b_X5_signsOfLevel_0_v2 (h := rfl), b_X5_signsOfLevel_38]
    rfl
  · show qG L xs d CX5_signsOfLevel 0 [(0, 3)] [] (qS w) = _
    rw [b_X5_signsOfLevel_0_v3 (h := rfl), b_X5_signsOfLevel_41]
    rfl
  · rw [b_X5_signsOfLevel_0_o (h := by omega), b_X5_signsOfLevel_44]
    rfl
theorem sk_lev (h : kB v b e D) {m : Nat} (hm : m ≤ 4) {k : Nat} {f : Int} {l : List Int} : qE L xs (d + 5) nX5_skip [(2, 23), (2, .ofNat (2003 + m))] (qS (kdS v D (k : Int) f l)) = if f < 0 ∧ k < e ∧ sgn m (b k) then some (some (0, b k), qS (kdS v D ((k : Int) + 1) f l)) else some (some (0, 0), qS (kdS v D (k : Int) f l)) := by
  have : m = 0 ∨ m = 1 ∨ m = 2 ∨ m = 3 ∨ m = 4 := by omega
  rcases this with rfl | rfl | rfl | rfl | rfl
  · exact sk_3 h
  · exact sk_4 h
  · exact sk_5 h
  · exact sk_6 h
  · exact sk_7 h
theorem k_below (h : kB v b e D) {m : Nat} (hm : m ≤ 4) {k : Nat} {f : Int} {l : List Int} (i most : Int) (hi : i < most ∨ ¬ (f < 0 ∧ k < e ∧ sgn m (b k))) : qE L xs (d + 7) nX5_skipBelow [(2, 23), (0, i), (0, most), (0, (m : Int))] (qS (kdS v D (k : Int) f l)) = some (some (0, if f < 0 ∧ k < e ∧ sgn m (b k) then b k else 0), qS (kdS v D (if f < 0 ∧ k < e ∧ sgn m (b k) then (k : Int) + 1 else (k : Int)) f l)) := by
  rw [show d + 7 = d + 6 + 1 from rfl, e_X5_skipBelow, b_X5_skipBelow_0]
  by_cases g : i < most
  · rw [if_pos g, b_X5_skipBelow_5, show d + 6 = d + 5 + 1 from rfl, k_signs hm, qB_some, psh_some, b_X5_skipBelow_10, show d + 5 + 1 = d + 1 + 5 from rfl, sk_lev h hm]
    by_cases q : f < 0 ∧ k < e ∧ sgn m (b k)
    · rw [if_pos q, if_pos q, if_pos q, qB_some, psh_some, b_X5_skipBelow_13, b_X5_skipBelow_17]
    · rw [if_neg q, if_neg q, if_neg q, qB_some, psh_some, b_X5_skipBelow_13, b_X5_skipBelow_17]
  · have q : ¬ (f < 0 ∧ k < e ∧ sgn m (b k)) := by
      rcases hi with q | q
      · exact absurd q g
      · exact q
    rw [if_neg g, b_X5_skipBelow_16, b_X5_skipBelow_17, if_neg q, if_neg q]
theorem dk_6 (d o : Nat) : dpK d o 6 = d + 7 * (6 - o) + 10 := by
  unfold dpK
  omega
theorem dk_lev {d o m : Nat} (h : m < 6) : dpK d o m = dpK d o (m + 1) + 1 := by
  unfold dpK
  omega
theorem dk_7 (d o m : Nat) : ∃ D, dpK d o m = D + 7 := ⟨dpK d o m - 7, by unfold dpK; omega⟩
/-- a level: the next one, then its loop -/
theorem kd_level (h : kB v b e D) {n m o k : Nat} {f : Int} {l : List Int} (hA : kdA L xs d v D b e n) (hC : kdC L xs d v D b e n) (hm : m < 5) (ho : o ≤ 6) (hk : k ≤ e) (hf : f < 0) (hl : l.length ≤ k) (hn : 20 * (120 - k) + rkT m < n + 1) : qE L xs (dpK d o m) nX5_readLevel [(2, 23), (0, (m : Int)), (0, (o : Int))] (qS (kdS v D (k : Int) f l)) = some (none, qS (kdS v D ((txP b e (n + 1) m o k f).2.1 : Int) (txP b e (n + 1) m o k f).2.2 (l ++ (txP b e (n + 1) m o k f).1))) := by
  have he := h.2.1
  have rk := rk_lev hm
  have p := hA (m + 1) o k f l (by omega) ho hk hf hl (by omega)
  have le := txP_le (b := b) (e := e) n (m + 1) o k f hk
  have q := hC m o (txP b e n (m + 1) o k f).2.1 0 (txP b e n (m + 1) o k f).2.2 (l ++ (txP b e n (m + 1) o k f).1) (by omega) ho le.2.1 (by rw [List.length_append]; omega) (Nat.zero_le _) (fun _ => rfl) (by omega)
  have tx : txP b e (n + 1) m o k f = ((txP b e n (m + 1) o k f).1 ++ (txP b e n (10 + m) o (txP b e n (m + 1) o k f).2.1 (txP b e n (m + 1) o k f).2.2).1, (txP b e n (10 + m) o (txP b e n (m + 1) o k f).2.1 (txP b e n (m + 1) o k f).2.2).2) := if_pos hm
  obtain ⟨D2, hD2⟩ := dk_7 d o (m + 1)
  have bl := k_below (L := L) (xs := xs) (d := D2) h (show m ≤ 4 by omega) (k := (txP b e n (m + 1) o k f).2.1) (f := (txP b e n (m + 1) o k f).2.2) (l := l ++ (txP b e n (m + 1) o k f).1) 0 (mstK m) (Or.inl (by unfold mstK; split <;> omega))
  rw [← hD2] at bl
  rw [List.append_assoc] at q
  rw [tx]
  dsimp only
  rw [← q, dk_lev (show m < 6 by omega), e_X5_readLevel, b_X5_readLevel_0, if_pos (by omega), b_X5_readLevel_11, w32_id (z := (m : Int) + 1) (by omega) (by omega), show (m : Int) + 1 = ((m + 1 : Nat) : Int) by omega, p, qB_some, psh_none, b_X5_readLevel_19]
  have s30 : (if (m : Int) = 2 then qG L xs (dpK d o (m + 1)) CX5_readLevel 24 [(2, 23), (0, (m : Int)), (0, (o : Int)), (9, 0), (9, 0), (9, 0)] [] (qS (kdS v D ((txP b e n (m + 1) o k f).2.1 : Int) (txP b e n (m + 1) o k f).2.2 (l ++ (txP b e n (m + 1) o k f).1))) else qG L xs (dpK d o (m + 1)) CX5_readLevel 28 [(2, 23), (0, (m : Int)), (0, (o : Int)), (9, 0), (9, 0), (9, 0)] [] (qS (kdS v D ((txP b e n (m + 1) o k f).2.1 : Int) (txP b e n (m + 1) o k f).2.2 (l ++ (txP b e n (m + 1) o k f).1)))) = qG L xs (dpK d o (m + 1)) CX5_readLevel 30 [(2, 23), (0, (m : Int)), (0, (o : Int)), (9, 0), (9, 0), (9, 0)] [(0, mstK m)] (qS (kdS v D ((txP b e n (m + 1) o k f).2.1 : Int) (txP b e n (m + 1) o k f).2.2 (l ++ (txP b e n (m + 1) o k f).1))) := by
    unfold mstK
    by_cases g : m = 2
    · rw [if_pos (by omega), if_pos g, b_X5_readLevel_24]
    · rw [if_neg (by omega), if_neg g, b_X5_readLevel_28]
  rw [s30, b_X5_readLevel_30, bl, qB_some, psh_some, b_X5_readLevel_38]
  rfl
/-- its loop -/
theorem kd_loop (h : kB v b e D) {n : Nat} (hA : kdA L xs d v D b e n) (hC : kdC L xs d v D b e n) : kdC L xs d v D b e (n + 1) := by
  intro m o k i f l hm ho hk hl hi h2 hn
  have he := h.2.1
  have mK : mstK m = 1 ∨ mstK m = 120 := by
    unfold mstK
    split
    · exact Or.inl rfl
    · exact Or.inr rfl
  by_cases q : f < 0 ∧ k < e ∧ sgn m (b k)
  · have bk : b k ≠ 0 ∧ 0 < b k ∧ b k < 200 := by
      have := q.2.2
      unfold sgn at this
      omega
    have rk1 : 20 * (120 - (k + 1)) + rkT (m + 1) < n := by
      have : m = 0 ∨ m = 1 ∨ m = 2 ∨ m = 3 ∨ m = 4 := by omega
      rcases this with rfl | rfl | rfl | rfl | rfl
      · have e1 : rkT 1 = 10 := rfl
        rw [e1]; omega
      · have e1 : rkT 2 = 8 := rfl
        rw [e1]; omega
      · have e1 : rkT 3 = 6 := rfl
        rw [e1]; omega
      · have e1 : rkT 4 = 4 := rfl
        rw [e1]; omega
      · have e1 : rkT 5 = 2 := rfl
        rw [e1]; omega
    have p := hA (m + 1) o (k + 1) f l (by omega) ho (by omega) q.1 (by omega) rk1
    rw [show ((k + 1 : Nat) : Int) = (k : Int) + 1 by omega] at p
    have le := txP_le (b := b) (e := e) n (m + 1) o (k + 1) f (by omega)
    obtain ⟨D2, hD2⟩ := dk_7 d o (m + 1)
    have i120 : i < 120 := by omega
    have im : (i : Int) < mstK m := by
      unfold mstK
      by_cases g : m = 2
      · have := h2 g
        rw [if_pos g]
        omega
      · rw [if_neg g]
        omega
    have hl2 : (l ++ (txP b e n (m + 1) o (k + 1) f).1).length ≤ 120 := by
      rw [List.length_append]
      omega
    have wr : qE L xs (dpK d o (m + 1)) nX5_write [(2, 23), (0, -(b k))] (qS (kdS v D ((txP b e n (m + 1) o (k + 1) f).2.1 : Int) (txP b e n (m + 1) o (k + 1) f).2.2 (l ++ (txP b e n (m + 1) o (k + 1) f).1))) = some (none, qS (kdS v D ((txP b e n (m + 1) o (k + 1) f).2.1 : Int) (txP b e n (m + 1) o (k + 1) f).2.2 (l ++ (txP b e n (m + 1) o (k + 1) f).1 ++ [-(b k)]))) := by
      rw [hD2]
      exact k_write (d := D2 + 6) h hl2 _
    rw [if_pos q, if_pos q, b_X5_readLevel_43, if_pos im, b_X5_readLevel_49, if_neg bk.1, b_X5_readLevel_54, w32_id (z := (m : Int) + 1) (by omega) (by omega), show (m : Int) + 1 = ((m + 1 : Nat) : Int) by omega, p, qB_some, psh_none, b_X5_readLevel_62, w32_id (z := -(b k)) (by omega) (by omega), wr, qB_some, psh_none, b_X5_readLevel_69, w32_id (z := (i : Int) + 1) (by omega) (by omega), tx_lp hm, if_pos q]
    by_cases g : m = 2
    · have i0 := h2 g
      subst g
      subst i0
      have nb : qE L xs (dpK d o (2 + 1)) nX5_skipBelow [(2, 23), (0, ((0 : Nat) : Int) + 1), (0, mstK 2), (0, ((2 : Nat) : Int))] (qS (kdS v D ((txP b e n (2 + 1) o (k + 1) f).2.1 : Int) (txP b e n (2 + 1) o (k + 1) f).2.2 (l ++ (txP b e n (2 + 1) o (k + 1) f).1 ++ [-(b k)]))) = some (some (0, 0), qS (kdS v D ((txP b e n (2 + 1) o (k + 1) f).2.1 : Int) (txP b e n (2 + 1) o (k + 1) f).2.2 (l ++ (txP b e n (2 + 1) o (k + 1) f).1 ++ [-(b k)]))) := by
        rw [hD2, show D2 + 7 = D2 + 6 + 1 from rfl, e_X5_skipBelow, b_X5_skipBelow_0, if_neg (by decide), b_X5_skipBelow_16, b_X5_skipBelow_17]
      rw [nb, qB_some, psh_some, b_X5_readLevel_79, b_X5_readLevel_43, if_neg (by decide), b_X5_readLevel_87, if_pos rfl]
      dsimp only
      rw [List.append_assoc]
    · have m120 : mstK m = 120 := if_neg g
      have rk2 : 20 * (120 - (txP b e n (m + 1) o (k + 1) f).2.1) + rkT (10 + m) < n := rk_step le.1 (Nat.lt_of_lt_of_le q.2.1 he) hn
      have ih := hC m o (txP b e n (m + 1) o (k + 1) f).2.1 (i + 1) (txP b e n (m + 1) o (k + 1) f).2.2 (l ++ (txP b e n (m + 1) o (k + 1) f).1 ++ [-(b k)]) hm ho le.2.1 (by rw [List.length_append, List.length_append, List.length_cons, List.length_nil]; omega) (by omega) (fun t => absurd t g) rk2
      rw [show ((i + 1 : Nat) : Int) = (i : Int) + 1 by omega] at ih
      have bl := k_below (L := L) (xs := xs) (d := D2) h hm (k := (txP b e n (m + 1) o (k + 1) f).2.1) (f := (txP b e n (m + 1) o (k + 1) f).2.2) (l := l ++ (txP b e n (m + 1) o (k + 1) f).1 ++ [-(b k)]) ((i : Int) + 1) (mstK m) (by
        by_cases t : i + 1 < 120
        · exact Or.inl (by rw [m120]; omega)
        · exact Or.inr (fun t2 => by have := t2.2.1; omega))
      rw [← hD2] at bl
      rw [bl, qB_some, psh_some, b_X5_readLevel_79, w32_id (z := (i : Int) + 1) (by omega) (by omega), ih, if_neg g]
      dsimp only
      rw [List.append_assoc, List.append_assoc]
      rfl
  · rw [if_neg q, if_neg q, b_X5_readLevel_43, tx_lp hm, if_neg q]
    dsimp only
    rw [List.append_nil]
    by_cases g : (i : Int) < mstK m
    · rw [if_pos g, b_X5_readLevel_49, if_pos rfl, b_X5_readLevel_87]
    · rw [if_neg g, b_X5_readLevel_87]
end OTK
