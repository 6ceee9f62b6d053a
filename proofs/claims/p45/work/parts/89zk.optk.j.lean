/-! JOINED: 89zk.optk, 89zl.optl, 89zm.optm, 89zn.optn, 89zo.opto -/
section
/-! THE LAW as the class reads it: operands, levels -/
section OTK
variable {L : Nat} {xs : Nat → Int} {d : Nat} {v : Nat → Nat → Int} {b : Nat → Int} {e D : Nat}
def dpK (d o m : Nat) : Nat := d + (7 * (6 - o) + (6 - m) + 10)
def mstK (m : Nat) : Int := if m = 2 then 1 else 120
def kdA (L : Nat) (xs : Nat → Int) (d : Nat) (v : Nat → Nat → Int) (D : Nat) (b : Nat → Int) (e n : Nat) : Prop :=
  ∀ (m o k : Nat) (f : Int) (l : List Int), m ≤ 5 → o ≤ 6 → k ≤ e → f < 0 → l.length ≤ k → 20 * (120 - k) + rkT m < n → qE L xs (dpK d o m) nX5_readLevel [(2, 23), (0, (m : Int)), (0, (o : Int))] (qS (kdS v D (k : Int) f l)) = some (none, qS (kdS v D ((txP b e n m o k f).2.1 : Int) (txP b e n m o k f).2.2 (l ++ (txP b e n m o k f).1)))
def kdO (L : Nat) (xs : Nat → Int) (d : Nat) (v : Nat → Nat → Int) (D : Nat) (b : Nat → Int) (e n : Nat) : Prop :=
  ∀ (o k : Nat) (f : Int) (l : List Int), o ≤ 6 → k ≤ e → f < 0 → l.length ≤ k → 20 * (120 - k) + 2 < n → qE L xs (dpK d o 6) nX5_readOperand [(2, 23), (0, (o : Int))] (qS (kdS v D (k : Int) f l)) = some (none, qS (kdS v D ((txP b e n 5 o k f).2.1 : Int) (txP b e n 5 o k f).2.2 (l ++ (txP b e n 5 o k f).1)))
def kdC (L : Nat) (xs : Nat → Int) (d : Nat) (v : Nat → Nat → Int) (D : Nat) (b : Nat → Int) (e n : Nat) : Prop :=
  ∀ (m o k i : Nat) (f : Int) (l : List Int), m ≤ 4 → o ≤ 6 → k ≤ e → l.length ≤ k → i ≤ k → (m = 2 → i = 0) → 20 * (120 - k) + rkT (10 + m) < n → qG L xs (dpK d o (m + 1)) CX5_readLevel 43 [(2, 23), (0, (m : Int)), (0, (o : Int)), (0, mstK m), (0, if f < 0 ∧ k < e ∧ sgn m (b k) then b k else 0), (0, (i : Int))] [] (qS (kdS v D (if f < 0 ∧ k < e ∧ sgn m (b k) then (k : Int) + 1 else (k : Int)) f l)) = some (none, qS (kdS v D ((txP b e n (10 + m) o k f).2.1 : Int) (txP b e n (10 + m) o k f).2.2 (l ++ (txP b e n (10 + m) o k f).1)))
theorem k_signs {m : Nat} (hm : m ≤ 4) (w : Nat → Nat → Int) : qE L xs (d + 1) nX5_signsOfLevel [(0, (m : Int))] (qS w) = some (some (2, .ofNat (2003 + m)), qS w) := by
  rw [e_X5_signsOfLevel]
  have : m = 0 ∨ m = 1 ∨ m = 2 ∨ m = 3 ∨ m = 4 := by omega
  rcases this with rfl | rfl | rfl | rfl | rfl
  · show qG L xs d CX5_signsOfLevel 0 [(0, 0)] [] (qS w) = _
    rw [b_X5_signsOfLevel_0_v0 (h := rfl), b_X5_signsOfLevel_32]
    rfl
  · show qG L xs d CX5_signsOfLevel 0 [(0, 1)] [] (qS w) = _
    rw [b_X5_signsOfLevel_0_v1 (h := rfl), b_X5_signsOfLevel_35]
    rfl
  · show qG L xs d CX5_signsOfLevel 0 [(0, 2)] [] (qS w) = _
    rw [b_X5_signsOfLevel_0_v2 (h := rfl), b_X5_signsOfLevel_38]
    rfl
  · show qG L xs d CX5_signsOfLevel 0 [(0, 3)] [] (qS w) = _
    rw [b_X5_signsOfLevel_0_v3 (h := rfl), b_X5_signsOfLevel_41]
    rfl
  · rw [b_X5_signsOfLevel_0_o (h := by omega), b_X5_signsOfLevel_44]
    rfl
theorem sk_lev (h : kB v b e D) {m : Nat} (hm : m ≤ 4) {k : Nat} {f : Int} {l : List Int} : qE L xs (d + 5) nX5_skip [(2, 23), (2, .ofNat (2003 + m))] (qS (kdS v D (k : Int) f l)) = if f < 0 ∧ k < e ∧ sgn m (b k) then some (some (0, b k), qS (kdS v D ((k : Int) + 1) f l)) else some (some (0, 0), qS (kdS v D (k : Int) f l)) := by
  have : m = 0 ∨ m = 1 ∨ m = 2 ∨ m = 3 ∨ m = 4 := by omega
  rcases this with rfl | rfl | rfl | rfl | rfl
  · exact sk_3 h
  · exact sk_4 h
  · exact sk_5 h
  · exact sk_6 h
  · exact sk_7 h
theorem k_below (h : kB v b e D) {m : Nat} (hm : m ≤ 4) {k : Nat} {f : Int} {l : List Int} (i most : Int) (hi : i < most ∨ ¬ (f < 0 ∧ k < e ∧ sgn m (b k))) : qE L xs (d + 7) nX5_skipBelow [(2, 23), (0, i), (0, most), (0, (m : Int))] (qS (kdS v D (k : Int) f l)) = some (some (0, if f < 0 ∧ k < e ∧ sgn m (b k) then b k else 0), qS (kdS v D (if f < 0 ∧ k < e ∧ sgn m (b k) then (k : Int) + 1 else (k : Int)) f l)) := by
  rw [show d + 7 = d + 6 + 1 from rfl, e_X5_skipBelow, b_X5_skipBelow_0]
  by_cases g : i < most
  · rw [if_pos g, b_X5_skipBelow_5, show d + 6 = d + 5 + 1 from rfl, k_signs hm, qB_some, psh_some, b_X5_skipBelow_10, show d + 5 + 1 = d + 1 + 5 from rfl, sk_lev h hm]
    by_cases q : f < 0 ∧ k < e ∧ sgn m (b k)
    · rw [if_pos q, if_pos q, if_pos q, qB_some, psh_some, b_X5_skipBelow_13, b_X5_skipBelow_17]
    · rw [if_neg q, if_neg q, if_neg q, qB_some, psh_some, b_X5_skipBelow_13, b_X5_skipBelow_17]
  · have q : ¬ (f < 0 ∧ k < e ∧ sgn m (b k)) := by
      rcases hi with q | q
      · exact absurd q g
      · exact q
    rw [if_neg g, b_X5_skipBelow_16, b_X5_skipBelow_17, if_neg q, if_neg q]
theorem dk_6 (d o : Nat) : dpK d o 6 = d + 7 * (6 - o) + 10 := by
  unfold dpK
  omega
theorem dk_lev {d o m : Nat} (h : m < 6) : dpK d o m = dpK d o (m + 1) + 1 := by
  unfold dpK
  omega
theorem dk_7 (d o m : Nat) : ∃ D, dpK d o m = D + 7 := ⟨dpK d o m - 7, by unfold dpK; omega⟩
/-- a level: the next one, then its loop -/
theorem kd_level (h : kB v b e D) {n m o k : Nat} {f : Int} {l : List Int} (hA : kdA L xs d v D b e n) (hC : kdC L xs d v D b e n) (hm : m < 5) (ho : o ≤ 6) (hk : k ≤ e) (hf : f < 0) (hl : l.length ≤ k) (hn : 20 * (120 - k) + rkT m < n + 1) : qE L xs (dpK d o m) nX5_readLevel [(2, 23), (0, (m : Int)), (0, (o : Int))] (qS (kdS v D (k : Int) f l)) = some (none, qS (kdS v D ((txP b e (n + 1) m o k f).2.1 : Int) (txP b e (n + 1) m o k f).2.2 (l ++ (txP b e (n + 1) m o k f).1))) := by
  have he := h.2.1
  have rk := rk_lev hm
  have p := hA (m + 1) o k f l (by omega) ho hk hf hl (by omega)
  have le := txP_le (b := b) (e := e) n (m + 1) o k f hk
  have q := hC m o (txP b e n (m + 1) o k f).2.1 0 (txP b e n (m + 1) o k f).2.2 (l ++ (txP b e n (m + 1) o k f).1) (by omega) ho le.2.1 (by rw [List.length_append]; omega) (Nat.zero_le _) (fun _ => rfl) (by omega)
  have tx : txP b e (n + 1) m o k f = ((txP b e n (m + 1) o k f).1 ++ (txP b e n (10 + m) o (txP b e n (m + 1) o k f).2.1 (txP b e n (m + 1) o k f).2.2).1, (txP b e n (10 + m) o (txP b e n (m + 1) o k f).2.1 (txP b e n (m + 1) o k f).2.2).2) := if_pos hm
  obtain ⟨D2, hD2⟩ := dk_7 d o (m + 1)
  have bl := k_below (L := L) (xs := xs) (d := D2) h (show m ≤ 4 by omega) (k := (txP b e n (m + 1) o k f).2.1) (f := (txP b e n (m + 1) o k f).2.2) (l := l ++ (txP b e n (m + 1) o k f).1) 0 (mstK m) (Or.inl (by unfold mstK; split <;> omega))
  rw [← hD2] at bl
  rw [List.append_assoc] at q
  rw [tx]
  dsimp only
  rw [← q, dk_lev (show m < 6 by omega), e_X5_readLevel, b_X5_readLevel_0, if_pos (by omega), b_X5_readLevel_11, w32_id (z := (m : Int) + 1) (by omega) (by omega), show (m : Int) + 1 = ((m + 1 : Nat) : Int) by omega, p, qB_some, psh_none, b_X5_readLevel_19]
  have s30 : (if (m : Int) = 2 then qG L xs (dpK d o (m + 1)) CX5_readLevel 24 [(2, 23), (0, (m : Int)), (0, (o : Int)), (9, 0), (9, 0), (9, 0)] [] (qS (kdS v D ((txP b e n (m + 1) o k f).2.1 : Int) (txP b e n (m + 1) o k f).2.2 (l ++ (txP b e n (m + 1) o k f).1))) else qG L xs (dpK d o (m + 1)) CX5_readLevel 28 [(2, 23), (0, (m : Int)), (0, (o : Int)), (9, 0), (9, 0), (9, 0)] [] (qS (kdS v D ((txP b e n (m + 1) o k f).2.1 : Int) (txP b e n (m + 1) o k f).2.2 (l ++ (txP b e n (m + 1) o k f).1)))) = qG L xs (dpK d o (m + 1)) CX5_readLevel 30 [(2, 23), (0, (m : Int)), (0, (o : Int)), (9, 0), (9, 0), (9, 0)] [(0, mstK m)] (qS (kdS v D ((txP b e n (m + 1) o k f).2.1 : Int) (txP b e n (m + 1) o k f).2.2 (l ++ (txP b e n (m + 1) o k f).1))) := by
    unfold mstK
    by_cases g : m = 2
    · rw [if_pos (by omega), if_pos g, b_X5_readLevel_24]
    · rw [if_neg (by omega), if_neg g, b_X5_readLevel_28]
  rw [s30, b_X5_readLevel_30, bl, qB_some, psh_some, b_X5_readLevel_38]
  rfl
/-- its loop -/
theorem kd_loop (h : kB v b e D) {n : Nat} (hA : kdA L xs d v D b e n) (hC : kdC L xs d v D b e n) : kdC L xs d v D b e (n + 1) := by
  intro m o k i f l hm ho hk hl hi h2 hn
  have he := h.2.1
  have mK : mstK m = 1 ∨ mstK m = 120 := by
    unfold mstK
    split
    · exact Or.inl rfl
    · exact Or.inr rfl
  by_cases q : f < 0 ∧ k < e ∧ sgn m (b k)
  · have bk : b k ≠ 0 ∧ 0 < b k ∧ b k < 200 := by
      have := q.2.2
      unfold sgn at this
      omega
    have rk1 : 20 * (120 - (k + 1)) + rkT (m + 1) < n := by
      have : m = 0 ∨ m = 1 ∨ m = 2 ∨ m = 3 ∨ m = 4 := by omega
      rcases this with rfl | rfl | rfl | rfl | rfl
      · have e1 : rkT 1 = 10 := rfl
        rw [e1]; omega
      · have e1 : rkT 2 = 8 := rfl
        rw [e1]; omega
      · have e1 : rkT 3 = 6 := rfl
        rw [e1]; omega
      · have e1 : rkT 4 = 4 := rfl
        rw [e1]; omega
      · have e1 : rkT 5 = 2 := rfl
        rw [e1]; omega
    have p := hA (m + 1) o (k + 1) f l (by omega) ho (by omega) q.1 (by omega) rk1
    rw [show ((k + 1 : Nat) : Int) = (k : Int) + 1 by omega] at p
    have le := txP_le (b := b) (e := e) n (m + 1) o (k + 1) f (by omega)
    obtain ⟨D2, hD2⟩ := dk_7 d o (m + 1)
    have i120 : i < 120 := by omega
    have im : (i : Int) < mstK m := by
      unfold mstK
      by_cases g : m = 2
      · have := h2 g
        rw [if_pos g]
        omega
      · rw [if_neg g]
        omega
    have hl2 : (l ++ (txP b e n (m + 1) o (k + 1) f).1).length ≤ 120 := by
      rw [List.length_append]
      omega
    have wr : qE L xs (dpK d o (m + 1)) nX5_write [(2, 23), (0, -(b k))] (qS (kdS v D ((txP b e n (m + 1) o (k + 1) f).2.1 : Int) (txP b e n (m + 1) o (k + 1) f).2.2 (l ++ (txP b e n (m + 1) o (k + 1) f).1))) = some (none, qS (kdS v D ((txP b e n (m + 1) o (k + 1) f).2.1 : Int) (txP b e n (m + 1) o (k + 1) f).2.2 (l ++ (txP b e n (m + 1) o (k + 1) f).1 ++ [-(b k)]))) := by
      rw [hD2]
      exact k_write (d := D2 + 6) h hl2 _
    rw [if_pos q, if_pos q, b_X5_readLevel_43, if_pos im, b_X5_readLevel_49, if_neg bk.1, b_X5_readLevel_54, w32_id (z := (m : Int) + 1) (by omega) (by omega), show (m : Int) + 1 = ((m + 1 : Nat) : Int) by omega, p, qB_some, psh_none, b_X5_readLevel_62, w32_id (z := -(b k)) (by omega) (by omega), wr, qB_some, psh_none, b_X5_readLevel_69, w32_id (z := (i : Int) + 1) (by omega) (by omega), tx_lp hm, if_pos q]
    by_cases g : m = 2
    · have i0 := h2 g
      subst g
      subst i0
      have nb : qE L xs (dpK d o (2 + 1)) nX5_skipBelow [(2, 23), (0, ((0 : Nat) : Int) + 1), (0, mstK 2), (0, ((2 : Nat) : Int))] (qS (kdS v D ((txP b e n (2 + 1) o (k + 1) f).2.1 : Int) (txP b e n (2 + 1) o (k + 1) f).2.2 (l ++ (txP b e n (2 + 1) o (k + 1) f).1 ++ [-(b k)]))) = some (some (0, 0), qS (kdS v D ((txP b e n (2 + 1) o (k + 1) f).2.1 : Int) (txP b e n (2 + 1) o (k + 1) f).2.2 (l ++ (txP b e n (2 + 1) o (k + 1) f).1 ++ [-(b k)]))) := by
        rw [hD2, show D2 + 7 = D2 + 6 + 1 from rfl, e_X5_skipBelow, b_X5_skipBelow_0, if_neg (by decide), b_X5_skipBelow_16, b_X5_skipBelow_17]
      rw [nb, qB_some, psh_some, b_X5_readLevel_79, b_X5_readLevel_43, if_neg (by decide), b_X5_readLevel_87, if_pos rfl]
      dsimp only
      rw [List.append_assoc]
    · have m120 : mstK m = 120 := if_neg g
      have rk2 : 20 * (120 - (txP b e n (m + 1) o (k + 1) f).2.1) + rkT (10 + m) < n := rk_step le.1 (Nat.lt_of_lt_of_le q.2.1 he) hn
      have ih := hC m o (txP b e n (m + 1) o (k + 1) f).2.1 (i + 1) (txP b e n (m + 1) o (k + 1) f).2.2 (l ++ (txP b e n (m + 1) o (k + 1) f).1 ++ [-(b k)]) hm ho le.2.1 (by rw [List.length_append, List.length_append, List.length_cons, List.length_nil]; omega) (by omega) (fun t => absurd t g) rk2
      rw [show ((i + 1 : Nat) : Int) = (i : Int) + 1 by omega] at ih
      have bl := k_below (L := L) (xs := xs) (d := D2) h hm (k := (txP b e n (m + 1) o (k + 1) f).2.1) (f := (txP b e n (m + 1) o (k + 1) f).2.2) (l := l ++ (txP b e n (m + 1) o (k + 1) f).1 ++ [-(b k)]) ((i : Int) + 1) (mstK m) (by
        by_cases t : i + 1 < 120
        · exact Or.inl (by rw [m120]; omega)
        · exact Or.inr (fun t2 => by have := t2.2.1; omega))
      rw [← hD2] at bl
      rw [bl, qB_some, psh_some, b_X5_readLevel_79, w32_id (z := (i : Int) + 1) (by omega) (by omega), ih, if_neg g]
      dsimp only
      rw [List.append_assoc, List.append_assoc]
      rfl
  · rw [if_neg q, if_neg q, b_X5_readLevel_43, tx_lp hm, if_neg q]
    dsimp only
    rw [List.append_nil]
    by_cases g : (i : Int) < mstK m
    · rw [if_pos g, b_X5_readLevel_49, if_pos rfl, b_X5_readLevel_87]
    · rw [if_neg g, b_X5_readLevel_87]
end OTK
end
section
/-! THE LAW as the class reads it: operands, lines, the tape -/
section OTL
variable {L : Nat} {xs : Nat → Int} {d : Nat} {v : Nat → Nat → Int} {b : Nat → Int} {e D : Nat}
theorem w_o1 {o : Nat} (h : o ≤ 6) : w32 ((o : Int) + 1) = ((o + 1 : Nat) : Int) := by
  rw [w32_id (by omega) (by omega)]
  omega
theorem kd_operand (h : kB v b e D) {n o k : Nat} {f : Int} {l : List Int} (hO : ∀ d, kdO L xs d v D b e n) (hA : kdA L xs d v D b e n) (ho : o ≤ 6) (hk : k ≤ e) (hf : f < 0) (hl : l.length ≤ k) (hn : 20 * (120 - k) + 2 < n + 1) : qE L xs (dpK d o 6) nX5_readOperand [(2, 23), (0, (o : Int))] (qS (kdS v D (k : Int) f l)) = some (none, qS (kdS v D ((txP b e (n + 1) 5 o k f).2.1 : Int) (txP b e (n + 1) 5 o k f).2.2 (l ++ (txP b e (n + 1) 5 o k f).1))) := by
  have he := h.2.1
  obtain ⟨Dq, hD, hDq⟩ : ∃ Dq, dpK d o 6 = Dq + 10 ∧ Dq = d + 7 * (6 - o) := ⟨d + 7 * (6 - o), dk_6 d o, rfl⟩
  have s0 : qE L xs (Dq + 9) nX5_skip [(2, 23), (2, 2000)] (qS (kdS v D (k : Int) f l)) = _ := sk_0 (d := Dq + 4) h
  have dg : qE L xs (Dq + 9) nX5_isDigitAhead [(2, 23)] (qS (kdS v D (k : Int) f l)) = _ := k_digit (d := Dq + 8) h
  have s1 : qE L xs (Dq + 9) nX5_skip [(2, 23), (2, 2001)] (qS (kdS v D (k : Int) f l)) = _ := sk_1 (d := Dq + 4) h
  -- nothing that may stand there
  have bad : ∀ x2 : Int, qG L xs (Dq + 9) CX5_readOperand 53 [(2, 23), (0, (o : Int)), (0, x2), (9, 0)] [(0, 0)] (qS (kdS v D (k : Int) f l)) = some (none, qS (kdS v D (k : Int) (k : Int) (l ++ []))) := fun x2 => by
    rw [b_X5_readOperand_53, if_pos rfl, b_X5_readOperand_58, show Dq + 9 = Dq + 8 + 1 from rfl, k_fail, if_pos hf, qB_some, psh_none, b_X5_readOperand_62, b_X5_readOperand_119, List.append_nil]
  rw [hD, show Dq + 10 = Dq + 9 + 1 from rfl, e_X5_readOperand, b_X5_readOperand_0, s0, tx_op hf]
  by_cases hk2 : k < e
  · obtain ⟨-, b0, b1⟩ := h.2.2.1 k hk2
    rw [if_pos hk2]
    by_cases q1 : 0 ≤ nmI (b k)
    · have bz : b k ≠ 0 := fun z => by
        rw [nm_no (Or.inr (Or.inr (Or.inr (Or.inl z))))] at q1
        omega
      have nr := nmI_r (b k)
      have ix : qE L xs (Dq + 9) nJ0_indexOf_0f7a4 [(2, 2000), (0, b k)] (qS (kdS v D ((k : Int) + 1) f l)) = some (some (0, nmI (b k)), qS (kdS v D ((k : Int) + 1) f l)) := by
        rw [show Dq + 9 = Dq + 5 + 4 from rfl, jx_0 _ b0 b1, jn_0 _ b0 b1]
      have wr : qE L xs (Dq + 9) nX5_write [(2, 23), (0, -1 - nmI (b k))] (qS (kdS v D ((k : Int) + 1) f l)) = some (none, qS (kdS v D ((k : Int) + 1) f (l ++ [-1 - nmI (b k)]))) := k_write (d := Dq + 8) h (by omega) _
      rw [if_pos ⟨hf, hk2, q1⟩, if_pos q1, qB_some, psh_some, b_X5_readOperand_6, if_neg bz, b_X5_readOperand_11, show b k % 65536 = b k by omega, ix, qB_some, psh_some, b_X5_readOperand_20, w32_id (by omega) (by omega), wr, qB_some, psh_none, b_X5_readOperand_24]
      rfl
    · rw [if_neg (fun t => q1 t.2.2), if_neg q1, qB_some, psh_some, b_X5_readOperand_6, if_pos rfl, b_X5_readOperand_25]
      by_cases q2 : dgt (b k)
      · have nu : qE L xs (Dq + 9) nX5_readNumber [(2, 23)] (qS (kdS v D (k : Int) f l)) = _ := k_number (d := Dq + 7) h hf (by omega) hk
        have dv : (if f < 0 ∧ k < e ∧ dgt (b k) then (1 : Int) else 0) = 1 := if_pos ⟨hf, hk2, q2⟩
        rw [dg, dv, qB_some, psh_some, b_X5_readOperand_29, if_neg (by decide), if_pos q2, b_X5_readOperand_32, nu, qB_some, psh_none, b_X5_readOperand_36]
      · have dv : (if f < 0 ∧ k < e ∧ dgt (b k) then (1 : Int) else 0) = 0 := if_neg (fun t => q2 t.2.2)
        rw [dg, dv, qB_some, psh_some, b_X5_readOperand_29, if_pos rfl, if_neg q2, b_X5_readOperand_37]
        clear dv dg
        by_cases o6 : o < 6
        · rw [if_pos (show (o : Int) < 6 by omega), b_X5_readOperand_43, s1]
          by_cases q3 : b k = 40
          · have p := hA 0 (o + 1) (k + 1) f l (by omega) (by omega) (by omega) hf (by omega) (by have : rkT 0 = 12 := rfl; rw [this]; omega)
            have dd : dpK d (o + 1) 0 = Dq + 9 := by
              unfold dpK
              omega
            rw [dd, show ((k + 1 : Nat) : Int) = (k : Int) + 1 by omega] at p
            have s2 : qE L xs (Dq + 9) nX5_skip [(2, 23), (2, 2002)] (qS (kdS v D ((txP b e n 0 (o + 1) (k + 1) f).2.1 : Int) (txP b e n 0 (o + 1) (k + 1) f).2.2 (l ++ (txP b e n 0 (o + 1) (k + 1) f).1))) = _ := sk_2 (d := Dq + 4) h
            rw [if_pos ⟨hf, hk2, Or.inl q3⟩, if_pos ⟨o6, q3⟩, qB_some, psh_some, b_X5_readOperand_49, b_X5_readOperand_53, if_neg (by omega), b_X5_readOperand_65, if_pos q3, b_X5_readOperand_71, w_o1 ho, show qE L xs (Dq + 9) nX5_readLevel [(2, 23), (0, 0), (0, ((o + 1 : Nat) : Int))] (qS (kdS v D ((k : Int) + 1) f l)) = _ from p, qB_some, psh_none, b_X5_readOperand_79, s2]
            by_cases q4 : (txP b e n 0 (o + 1) (k + 1) f).2.2 < 0 ∧ (txP b e n 0 (o + 1) (k + 1) f).2.1 < e ∧ b (txP b e n 0 (o + 1) (k + 1) f).2.1 = 41
            · rw [if_pos q4, if_pos q4, qB_some, psh_some, b_X5_readOperand_85, if_neg (by omega), b_X5_readOperand_119]
              rfl
            · rw [if_neg q4, if_neg q4, qB_some, psh_some, b_X5_readOperand_85, if_pos rfl, b_X5_readOperand_88, show Dq + 9 = Dq + 8 + 1 from rfl, k_fail, qB_some, psh_none, b_X5_readOperand_92, b_X5_readOperand_119]
          · by_cases q4 : b k = 33 ∨ b k = 45
            · have p := hO (d + 6) (o + 1) (k + 1) f l (by omega) (by omega) hf (by omega) (by omega)
              have le := txP_le (b := b) (e := e) n 5 (o + 1) (k + 1) f (by omega)
              have dd : dpK (d + 6) (o + 1) 6 = Dq + 9 := by
                unfold dpK
                omega
              rw [dd, show ((k + 1 : Nat) : Int) = (k : Int) + 1 by omega] at p
              have wr : ∀ z : Int, qE L xs (Dq + 9) nX5_write [(2, 23), (0, z)] (qS (kdS v D ((txP b e n 5 (o + 1) (k + 1) f).2.1 : Int) (txP b e n 5 (o + 1) (k + 1) f).2.2 (l ++ (txP b e n 5 (o + 1) (k + 1) f).1))) = some (none, qS (kdS v D ((txP b e n 5 (o + 1) (k + 1) f).2.1 : Int) (txP b e n 5 (o + 1) (k + 1) f).2.2 (l ++ (txP b e n 5 (o + 1) (k + 1) f).1 ++ [z]))) := fun z => k_write (d := Dq + 8) h (by rw [List.length_append]; omega) z
              rw [if_pos ⟨hf, hk2, Or.inr q4⟩, if_neg (fun t => q3 t.2), if_pos ⟨o6, q4⟩, qB_some, psh_some, b_X5_readOperand_49, b_X5_readOperand_53, if_neg (by omega), b_X5_readOperand_65, if_neg q3, b_X5_readOperand_95, w_o1 ho, p, qB_some, psh_none, b_X5_readOperand_102]
              dsimp only
              rw [← List.append_assoc]
              by_cases q5 : b k = 45
              · rw [if_pos q5, if_pos q5, b_X5_readOperand_109, b_X5_readOperand_116, wr, qB_some, psh_none, b_X5_readOperand_119]
              · rw [if_neg q5, if_neg q5, b_X5_readOperand_114, b_X5_readOperand_116, wr, qB_some, psh_none, b_X5_readOperand_119]
            · rw [if_neg (fun t => by have := t.2.2; omega), if_neg (fun t => q3 t.2), if_neg (fun t => q4 t.2), qB_some, psh_some, b_X5_readOperand_49]
              exact bad _
        · rw [if_neg (by omega), if_neg (fun t => o6 t.1), if_neg (fun t => o6 t.1), b_X5_readOperand_52]
          exact bad _
  · rw [if_neg (fun t => hk2 t.2.1), if_neg hk2, qB_some, psh_some, b_X5_readOperand_6, if_pos rfl, b_X5_readOperand_25, dg, if_neg (fun t => hk2 t.2.1), qB_some, psh_some, b_X5_readOperand_29, if_pos rfl, b_X5_readOperand_37]
    by_cases o6 : o < 6
    · rw [if_pos (by omega), b_X5_readOperand_43, s1, if_neg (fun t => hk2 t.2.1), qB_some, psh_some, b_X5_readOperand_49]
      exact bad _
    · rw [if_neg (by omega), b_X5_readOperand_52]
      exact bad _
/-- all of it, level by level -/
theorem kd_all (h : kB v b e D) : ∀ n d, kdO L xs d v D b e n ∧ kdA L xs d v D b e n ∧ kdC L xs d v D b e n
  | 0, d => ⟨fun o k f l _ _ _ _ h6 => absurd h6 (by omega), fun m o k f l _ _ _ _ _ h6 => absurd h6 (by omega), fun m o k i f l _ _ _ _ _ _ h6 => absurd h6 (by omega)⟩
  | n + 1, d => by
    have ih := kd_all h n
    have op : kdO L xs d v D b e (n + 1) := fun o k f l ho hk hf hl hn => kd_operand h (fun d => (ih d).1) (ih d).2.1 ho hk hf hl hn
    refine ⟨op, fun m o k f l hm ho hk hf hl hn => ?_, kd_loop h (ih d).2.1 (ih d).2.2⟩
    by_cases g : m < 5
    · exact kd_level h (ih d).2.1 (ih d).2.2 g ho hk hf hl hn
    · have : m = 5 := by omega
      subst this
      rw [dk_lev (show 5 < 6 by omega), e_X5_readLevel, b_X5_readLevel_0, if_neg (by decide), b_X5_readLevel_5, show dpK d o (5 + 1) = dpK d o 6 from rfl, op o k f l ho hk hf hl hn, qB_some, psh_none, b_X5_readLevel_10]
/-- a whole E -/
theorem kd_either (h : kB v b e D) {k : Nat} {f : Int} {l : List Int} (hk : k ≤ e) (hf : f < 0) (hl : l.length ≤ k) : qE L xs (d + 58) nX5_readLevel [(2, 23), (0, 0), (0, 0)] (qS (kdS v D (k : Int) f l)) = some (none, qS (kdS v D ((txP b e 2500 0 0 k f).2.1 : Int) (txP b e 2500 0 0 k f).2.2 (l ++ (txP b e 2500 0 0 k f).1))) :=
  (kd_all (L := L) (xs := xs) h 2500 d).2.1 0 0 k f l (by omega) (by omega) hk hf hl (by have : rkT 0 = 12 := rfl; have := h.2.1; omega)
theorem kd_line (h : kB v b e D) {k : Nat} {f : Int} {l : List Int} (hk : k ≤ e) (hf : f < 0) (hl : l.length ≤ k) : qE L xs (d + 59) nX5_readLine [(2, 23)] (qS (kdS v D (k : Int) f l)) = some (none, qS (kdS v D ((txL b e k f).2.1 : Int) (txL b e k f).2.2 (l ++ (txL b e k f).1))) := by
  have he := h.2.1
  have a := txP_le (b := b) (e := e) 2500 0 0 k f hk
  have sk : qE L xs (d + 58) nX5_skip [(2, 23), (2, 2008)] (qS (kdS v D ((txP b e 2500 0 0 k f).2.1 : Int) (txP b e 2500 0 0 k f).2.2 (l ++ (txP b e 2500 0 0 k f).1))) = _ := sk_8 (d := d + 53) h
  have l1 : (l ++ (txP b e 2500 0 0 k f).1).length ≤ (txP b e 2500 0 0 k f).2.1 := by
    rw [List.length_append]
    omega
  rw [show d + 59 = d + 58 + 1 from rfl, e_X5_readLine, b_X5_readLine_0, kd_either h hk hf hl, qB_some, psh_none, b_X5_readLine_6, sk]
  by_cases q : (txP b e 2500 0 0 k f).2.2 < 0 ∧ (txP b e 2500 0 0 k f).2.1 < e ∧ b (txP b e 2500 0 0 k f).2.1 = 63
  · have w1 : qE L xs (d + 58) nX5_write [(2, 23), (0, -63)] (qS (kdS v D (((txP b e 2500 0 0 k f).2.1 : Int) + 1) (txP b e 2500 0 0 k f).2.2 (l ++ (txP b e 2500 0 0 k f).1))) = _ := k_write (d := d + 57) h (by omega) (-63)
    have l2 : (l ++ (txP b e 2500 0 0 k f).1 ++ [-63]).length ≤ (txP b e 2500 0 0 k f).2.1 + 1 := by
      rw [List.length_append, List.length_cons, List.length_nil]
      omega
    have e2 := kd_either (L := L) (xs := xs) (d := d) (k := (txP b e 2500 0 0 k f).2.1 + 1) h (by omega) q.1 l2
    rw [show (((txP b e 2500 0 0 k f).2.1 + 1 : Nat) : Int) = ((txP b e 2500 0 0 k f).2.1 : Int) + 1 by omega] at e2
    have c := txP_le (b := b) (e := e) 2500 0 0 ((txP b e 2500 0 0 k f).2.1 + 1) (txP b e 2500 0 0 k f).2.2 (by omega)
    have w2 := k_write (L := L) (xs := xs) (d := d + 57) (k := ((txP b e 2500 0 0 ((txP b e 2500 0 0 k f).2.1 + 1) (txP b e 2500 0 0 k f).2.2).2.1 : Int)) (f := (txP b e 2500 0 0 ((txP b e 2500 0 0 k f).2.1 + 1) (txP b e 2500 0 0 k f).2.2).2.2) (l := l ++ (txP b e 2500 0 0 k f).1 ++ [-63] ++ (txP b e 2500 0 0 ((txP b e 2500 0 0 k f).2.1 + 1) (txP b e 2500 0 0 k f).2.2).1) h (by rw [List.length_append]; omega) (-59)
    rw [if_pos q, qB_some, psh_some, b_X5_readLine_12, if_neg (by omega), b_X5_readLine_15, w1, qB_some, psh_none, b_X5_readLine_21, e2, qB_some, psh_none, b_X5_readLine_27, show d + 58 = d + 57 + 1 from rfl, w2, qB_some, psh_none, b_X5_readLine_33, txL_q q]
    dsimp only
    rw [List.append_assoc, List.append_assoc, List.append_assoc]
    rfl
  · have w2 : qE L xs (d + 58) nX5_write [(2, 23), (0, -59)] (qS (kdS v D ((txP b e 2500 0 0 k f).2.1 : Int) (txP b e 2500 0 0 k f).2.2 (l ++ (txP b e 2500 0 0 k f).1))) = _ := k_write (d := d + 57) h (by omega) (-59)
    rw [if_neg q, qB_some, psh_some, b_X5_readLine_12, if_pos rfl, b_X5_readLine_27, w2, qB_some, psh_none, b_X5_readLine_33, txL_n q]
    dsimp only
    rw [List.append_assoc]
theorem kd_lines (h : kB v b e D) : ∀ (n k i : Nat) (f : Int) (l : List Int), k ≤ e → f < 0 → l.length ≤ k → i ≤ k → e - k < n → ∃ i' : Int, qG L xs (d + 59) CX5_readTape 21 [(2, 23), (0, (i : Int))] [] (qS (kdS v D ((txL b e k f).2.1 : Int) (txL b e k f).2.2 (l ++ (txL b e k f).1))) = qG L xs (d + 59) CX5_readTape 46 [(2, 23), (0, i')] [] (qS (kdS v D ((txS b e n k f).2.1 : Int) (txS b e n k f).2.2 (l ++ (txS b e n k f).1)))
  | 0, k, i, f, l, hk, hf, hl, hi, hn => absurd hn (by omega)
  | n + 1, k, i, f, l, hk, hf, hl, hi, hn => by
    have he := h.2.1
    have a := txL_le (b := b) (e := e) f hk
    have sk : qE L xs (d + 59) nX5_skip [(2, 23), (2, 2009)] (qS (kdS v D ((txL b e k f).2.1 : Int) (txL b e k f).2.2 (l ++ (txL b e k f).1))) = _ := sk_9 (d := d + 54) h
    rw [b_X5_readTape_21, txS_s]
    by_cases q : (txL b e k f).2.2 < 0 ∧ (txL b e k f).2.1 < e ∧ b (txL b e k f).2.1 = 59
    · have l2 : (l ++ (txL b e k f).1).length ≤ (txL b e k f).2.1 + 1 := by
        rw [List.length_append]
        omega
      have ln := kd_line (L := L) (xs := xs) (d := d) (k := (txL b e k f).2.1 + 1) h (by omega) q.1 l2
      rw [show (((txL b e k f).2.1 + 1 : Nat) : Int) = ((txL b e k f).2.1 : Int) + 1 by omega] at ln
      obtain ⟨i', ih⟩ := kd_lines h n ((txL b e k f).2.1 + 1) (i + 1) (txL b e k f).2.2 (l ++ (txL b e k f).1) (by omega) q.1 l2 (by omega) (by omega)
      refine ⟨i', ?_⟩
      rw [if_pos (by omega), b_X5_readTape_27, sk, if_pos q, qB_some, psh_some, b_X5_readTape_33, if_neg (by omega), b_X5_readTape_36, ln, qB_some, psh_none, b_X5_readTape_40, w32_id (by omega) (by omega), show (i : Int) + 1 = ((i + 1 : Nat) : Int) by omega, ih, if_pos q]
      dsimp only
      rw [List.append_assoc]
    · refine ⟨i, ?_⟩
      rw [if_neg q]
      by_cases g : (i : Int) < 120
      · rw [if_pos g, b_X5_readTape_27, sk, if_neg q, qB_some, psh_some, b_X5_readTape_33, if_pos rfl]
      · rw [if_neg g]
/-- the tape, read: the fault; where one was found nothing but the draft has changed, else the law is new -/
def kdF (b : Nat → Int) (e : Nat) : Int := if (txS b e 130 0 (-1)).2.1 < e then (if (txS b e 130 0 (-1)).2.2 < 0 then ((txS b e 130 0 (-1)).2.1 : Int) else (txS b e 130 0 (-1)).2.2) else (txS b e 130 0 (-1)).2.2
theorem b_X5_takeDraft_4 (r1 : Nat) : qG L xs d CX5_takeDraft 4 [(2, 23), (9, 0)] [(2, .ofNat r1)] (qS v) = qG L xs d CX5_takeDraft 5 [(2, 23), (2, .ofNat r1)] [] (qS v) := qG_stk 1 _ _ _ _
theorem kd_0 : pm_up (pm_up (pm_up v 23 8 0) 23 9 (-1)) 23 6 0 = kdS v D 0 (-1) [] := by
  funext c j
  unfold pm_up kdS
  by_cases g : c = 23
  · by_cases g6 : j = 6
    · rw [if_pos ⟨g, g6⟩, if_pos g, if_neg (by omega), if_neg (by omega), if_pos g6]
      rfl
    · rw [if_neg (fun t => g6 t.2), if_pos g]
      by_cases g9 : j = 9
      · rw [if_pos ⟨g, g9⟩, if_neg (by omega), if_pos g9]
      · rw [if_neg (fun t => g9 t.2)]
        by_cases g8 : j = 8
        · rw [if_pos ⟨g, g8⟩, if_pos g8]
        · rw [if_neg (fun t => g8 t.2), if_neg g8, if_neg g9, if_neg g6]
  · rw [if_neg (fun t => g t.1), if_neg (fun t => g t.1), if_neg (fun t => g t.1), if_neg g]
    by_cases g1 : c = D
    · rw [if_pos g1]
      rfl
    · rw [if_neg g1]
def kdU (v : Nat → Nat → Int) (b : Nat → Int) (e D : Nat) : Nat → Nat → Int := pm_up (kdS v D ((txS b e 130 0 (-1)).2.1 : Int) (kdF b e) (txS b e 130 0 (-1)).1) 23 10 0
theorem kd_tape (h : kB v b e D) {D' : Nat} (h1 : v 23 1 = .ofNat D') : qE L xs (d + 60) nX5_readTape [(2, 23)] (qS v) = some (some (0, kdF b e), qS (if kdF b e < 0 then pm_up (pm_up (pm_up (kdU v b e D) 23 1 (.ofNat D)) 23 2 (.ofNat D')) 23 5 ((txS b e 130 0 (-1)).1.length : Int) else kdU v b e D)) := by
  obtain ⟨i', p⟩ := kd_lines (L := L) (xs := xs) (d := d) h 130 0 0 (-1) [] (Nat.zero_le _) (by decide) (Nat.le_refl _) (Nat.le_refl _) (by have := h.2.1; omega)
  have ln := kd_line (L := L) (xs := xs) (d := d) (k := 0) (f := -1) (l := []) h (Nat.zero_le _) (by decide) (Nat.le_refl _)
  rw [List.nil_append] at p ln
  rw [List.nil_append] at p
  have s46 : qG L xs (d + 59) CX5_readTape 46 [(2, 23), (0, i')] [] (qS (kdS v D ((txS b e 130 0 (-1)).2.1 : Int) (txS b e 130 0 (-1)).2.2 (txS b e 130 0 (-1)).1)) = qG L xs (d + 59) CX5_readTape 61 [(2, 23), (0, i')] [] (qS (kdS v D ((txS b e 130 0 (-1)).2.1 : Int) (kdF b e) (txS b e 130 0 (-1)).1)) := by
    rw [b_X5_readTape_46, kd_8, show kdS v D ((txS b e 130 0 (-1)).2.1 : Int) (txS b e 130 0 (-1)).2.2 (txS b e 130 0 (-1)).1 23 10 = (e : Int) from (kd_23 (by omega)).trans h.1]
    unfold kdF
    by_cases q : (txS b e 130 0 (-1)).2.1 < e
    · rw [if_pos (by omega), if_pos q, b_X5_readTape_57, show d + 59 = d + 58 + 1 from rfl, k_fail, qB_some, psh_none]
    · rw [if_neg (by omega), if_neg q]
  have f9 : kdU v b e D 23 9 = kdF b e := (up_ne (by omega)).trans kd_9
  have f1 : kdU v b e D 23 1 = .ofNat D' := ((up_ne (by omega)).trans (kd_23 (by omega))).trans h1
  have f2 : kdU v b e D 23 2 = .ofNat D := ((up_ne (by omega)).trans (kd_23 (by omega))).trans h.2.2.2.2
  have f6 : kdU v b e D 23 6 = ((txS b e 130 0 (-1)).1.length : Int) := (up_ne (by omega)).trans kd_6
  rw [show d + 60 = d + 59 + 1 from rfl, e_X5_readTape, b_X5_readTape_0, b_X5_readTape_5, b_X5_readTape_10, kd_0 (D := D), b_X5_readTape_15, show qE L xs (d + 59) nX5_readLine [(2, 23)] (qS (kdS v D 0 (-1) [])) = _ from ln, qB_some, psh_none, b_X5_readTape_19]
  refine Eq.trans p ?_
  rw [s46, b_X5_readTape_61]
  show qG L xs (d + 59) CX5_readTape 66 [(2, 23), (0, i')] [] (qS (kdU v b e D)) = _
  rw [b_X5_readTape_66, f9]
  by_cases q : kdF b e < 0
  · rw [if_pos q, if_pos q, b_X5_readTape_73, show d + 59 = d + 58 + 1 from rfl, e_X5_takeDraft, b_X5_takeDraft_0, f1, b_X5_takeDraft_4, b_X5_takeDraft_5, f2, b_X5_takeDraft_13, b_X5_takeDraft_18, up_ne (by omega), up_ne (by omega), f6, b_X5_takeDraft_26, qB_some, psh_none, b_X5_readTape_77, up_ne (by omega), up_ne (by omega), up_ne (by omega), f9]
  · rw [if_neg q, if_neg q, b_X5_readTape_77, f9]
end OTL
end
section
/-! law keeps the relation -/
section OTM
variable {L : Nat} {xs : Nat → Int} {d : Nat} {v w : Nat → Nat → Int} {b : Nat → Int} {e : Nat}
/-- the reference keeps the text -/
theorem m_keepText (x1 : Int) {n : Nat} (hn : n ≤ 120) : ∀ (m j : Nat) (u : Nat → Nat → Int), j + m = n → ∃ w, qG L xs d CX12_law 37 [(2, 63), (0, x1), (0, (n : Int)), (0, (j : Int))] [] (qS u) = some (some (0, 1), qS w) ∧ w 63 14 = (n : Int) ∧ (∀ c i, c ≠ 72 → ¬ (c = 63 ∧ i = 14) → w c i = u c i) ∧ ∀ i, w 72 i = if j ≤ i ∧ i < n then u 71 i else u 72 i
  | 0, j, u, hj => by
    refine ⟨pm_up u 63 14 (n : Int), ?_, up_eq _ _ _ _, fun c i h1 h2 => up_ne (by omega), fun i => ?_⟩
    · rw [b_X12_law_37, if_neg (by omega), b_X12_law_60, b_X12_law_65]
    · rw [up_ne (by omega), if_neg (by omega)]
  | m + 1, j, u, hj => by
    obtain ⟨w, e1, e2, e3, e4⟩ := m_keepText x1 hn m (j + 1) (pm_up u 72 j (u 71 j)) (by omega)
    refine ⟨w, ?_, e2, fun c i h1 h2 => (e3 c i h1 h2).trans (up_ne (by omega)), fun i => ?_⟩
    · rw [b_X12_law_37, if_pos (by omega), b_X12_law_42, if_pos (by omega), Int.toNat_natCast, b_X12_law_53, if_pos (by omega), Int.toNat_natCast, b_X12_law_54, w32_id (by omega) (by omega), show (j : Int) + 1 = ((j + 1 : Nat) : Int) by omega, e1]
    · rw [e4 i]
      by_cases g : j + 1 ≤ i ∧ i < n
      · rw [if_pos g, if_pos (by omega), up_ne (by omega)]
      · rw [if_neg g]
        by_cases g2 : i = j
        · rw [g2, up_eq, if_pos (by omega)]
        · rw [up_ne (by omega), if_neg (by omega)]
theorem kdF_eq : (if (txS b e 130 0 (-1)).2.2 < 0 ∧ (txS b e 130 0 (-1)).2.1 < e then ((txS b e 130 0 (-1)).2.1 : Int) else (txS b e 130 0 (-1)).2.2) = kdF b e := by
  unfold kdF
  by_cases q1 : (txS b e 130 0 (-1)).2.1 < e
  · rw [if_pos q1]
    by_cases q2 : (txS b e 130 0 (-1)).2.2 < 0
    · rw [if_pos q2, if_pos ⟨q2, q1⟩]
    · rw [if_neg q2, if_neg (fun t => q2 t.1)]
  · rw [if_neg q1, if_neg (fun t => q1 t.2)]
theorem kdF_ok (h : kdF b e < 0) : (txS b e 130 0 (-1)).2.2 < 0 ∧ (txS b e 130 0 (-1)).2.1 = e := by
  have a := txS_le (b := b) (e := e) 130 0 (-1) (Nat.zero_le _)
  unfold kdF at h
  by_cases q1 : (txS b e 130 0 (-1)).2.1 < e
  · rw [if_pos q1] at h
    by_cases q2 : (txS b e 130 0 (-1)).2.2 < 0
    · rw [if_pos q2] at h
      omega
    · rw [if_neg q2] at h
      omega
  · rw [if_neg q1] at h
    omega
theorem kdF_b : -1 ≤ kdF b e ∧ kdF b e ≤ e := by
  have a := txS_le (b := b) (e := e) 130 0 (-1) (Nat.zero_le _)
  unfold kdF
  split
  · split <;> omega
  · omega
theorem opr_law (h : rlR v) : opR L xs v nX11_law nX12_law 0 [] := by
  obtain ⟨e1, e2, e3, e4⟩ := h.2.2.1
  obtain ⟨N, hN⟩ : ∃ N : Nat, v 23 10 = (N : Int) := ⟨(v 23 10).toNat, by omega⟩
  obtain ⟨D, D', hD, hD1, hD2⟩ : ∃ D D' : Nat, ((D = 25 ∧ D' = 26) ∨ (D = 26 ∧ D' = 25)) ∧ v 23 1 = .ofNat D' ∧ v 23 2 = .ofNat D := by
    rcases e4 with ⟨q1, q2⟩ | ⟨q1, q2⟩
    · exact ⟨26, 25, Or.inr ⟨rfl, rfl⟩, q1, q2⟩
    · exact ⟨25, 26, Or.inl ⟨rfl, rfl⟩, q1, q2⟩
  obtain ⟨b, hb⟩ : ∃ b : Nat → Int, b = fun i => if i < N then v 71 i else v 72 i := ⟨_, rfl⟩
  have hbi : ∀ i, i < N → b i = v 71 i := fun i hi => by rw [hb]; exact if_pos hi
  have hB : kB v b N D := ⟨hN, by omega, fun i hi => by
    have q := e3 i (by omega)
    rw [hbi i hi]
    omega, by omega, hD2⟩
  obtain ⟨K, hK⟩ : ∃ K, K = (txS b N 130 0 (-1)).2.1 := ⟨_, rfl⟩
  obtain ⟨l, hl⟩ : ∃ l, l = (txS b N 130 0 (-1)).1 := ⟨_, rfl⟩
  obtain ⟨F, hF⟩ : ∃ F, F = kdF b N := ⟨_, rfl⟩
  have Fb := kdF_b (b := b) (e := N)
  have c1 := kd_tape (L := L) (xs := xs) (d := 939) hB hD1
  obtain ⟨w1, hw1⟩ : ∃ w1, w1 = (if kdF b N < 0 then pm_up (pm_up (pm_up (kdU v b N D) 23 1 (.ofNat D)) 23 2 (.ofNat D')) 23 5 ((txS b N 130 0 (-1)).1.length : Int) else kdU v b N D) := ⟨_, rfl⟩
  rw [← hw1] at c1
  have u1 : ∀ c j, c ≠ 23 → c ≠ D → w1 c j = v c j := fun c j q1 q2 => by
    have : kdU v b N D c j = v c j := (up_ne (by omega)).trans (kd_ne q1 q2)
    rw [hw1]
    split
    · rw [up_ne (by omega), up_ne (by omega), up_ne (by omega), this]
    · exact this
  -- the reference
  have rb : rdB (rdT w1 (-1) N) b N := by
    refine ⟨up_eq _ _ _ _, hB.2.1, fun i hi => (hB.2.2.1 i hi).2, Or.inl ⟨?_, fun i hi => ?_⟩⟩
    · unfold rdT
      rw [up_ne (by omega), up_eq]
    · unfold rdT
      rw [up_ne (by omega), up_ne (by omega), u1 71 i (by omega) (by omega), hbi i hi]
  obtain ⟨o', c2⟩ := mr_workOut (L := L) (xs := xs) (v := w1) (nm := w1 73) rb (fun _ _ => rfl) 953
  rw [kdF_eq] at c2
  obtain ⟨w2, hw2⟩ : ∃ w2, w2 = pm_up (rdS (rdT w1 (-1) N) ((txS b N 130 0 (-1)).2.1 : Int) (kdF b N) o') 63 12 0 := ⟨_, rfl⟩
  have u2 : ∀ c j, c ≠ 63 → w2 c j = w1 c j := fun c j q => by
    rw [hw2, up_ne (by omega), rd_ne (by omega)]
    unfold rdT
    rw [up_ne (by omega), up_ne (by omega)]
  have u3 : ∀ j, ¬ (j = 12 ∨ (15 ≤ j ∧ j ≤ 19)) → w2 63 j = w1 63 j := fun j q => by
    rw [hw2, up_ne (by omega), rd_ne (by omega)]
    unfold rdT
    rw [up_ne (by omega), up_ne (by omega)]
  have w212 : w2 63 12 = 0 := by rw [hw2, up_eq]
  have w218 : w2 63 18 = F := by rw [hw2, up_ne (by omega), rd_18, hF]
  have n12 : w1 63 12 = (N : Int) := by rw [u1 63 12 (by omega) (by omega)]; omega
  have n12b : ∀ k f o, rdS (rdT w1 (-1) N) k f o 63 12 = (N : Int) := fun k f o => by
    rw [rd_ne (by omega)]
    unfold rdT
    rw [up_ne (by omega), up_ne (by omega), n12]
  have r1 : qE L xs 1000 nX11_law [(2, 0)] (qS v) = some (some (0, if F < 0 then 1 else -100 - F), qS w1) := by
    rw [e_X11_law, b_X11_law_0, show qE L xs 999 nX5_readTape [(2, 23)] (qS v) = _ from c1, qB_some, psh_some, b_X11_law_7, ← hF]
    by_cases g : F < 0
    · rw [if_pos g, if_pos g, b_X11_law_12, b_X11_law_20]
    · rw [if_neg g, if_neg g, b_X11_law_16, w32_id (by omega) (by omega), b_X11_law_20]
  have r2 : qE L xs 1000 nX12_law [(2, 63)] (qS w1) = if F < 0 then qG L xs 999 CX12_law 35 [(2, 63), (0, if (txS b N 130 0 (-1)).2.2 < 0 ∧ (txS b N 130 0 (-1)).2.1 < N then 0 else vS b N (w1 73) 130 0 (-1) 0 0), (0, (N : Int)), (9, 0)] [] (qS w2) else some (some (0, -100 - F), qS w2) := by
    rw [e_X12_law, b_X12_law_0, n12, show qE L xs 999 nX12_workOut [(2, 63), (0, -1), (0, (N : Int))] (qS w1) = _ from c2, qB_some, psh_some, b_X12_law_9, n12b, ← hw2, b_X12_law_20, w218]
    by_cases g : F < 0
    · rw [if_pos g, if_pos g]
    · rw [if_neg g, if_neg g, b_X12_law_27, w218, w32_id (by omega) (by omega)]
  have k10 : w1 23 10 = 0 := by
    have : kdU v b N D 23 10 = 0 := up_eq _ _ _ _
    rw [hw1]
    split
    · rw [up_ne (by omega), up_ne (by omega), up_ne (by omega), this]
    · exact this
  by_cases g : F < 0
  · obtain ⟨w3, s1, s2, s3, s4⟩ := m_keepText (L := L) (xs := xs) (d := 999) (if (txS b N 130 0 (-1)).2.2 < 0 ∧ (txS b N 130 0 (-1)).2.1 < N then 0 else vS b N (w1 73) 130 0 (-1) 0 0) hB.2.1 N 0 w2 (by omega)
    rw [if_pos g] at r1 r2
    refine ⟨1, w1, w3, r1, ?_, ?_⟩
    · rw [r2, b_X12_law_35]
      exact s1
    · have g2 : kdF b N < 0 := by omega
      rw [if_pos g2] at hw1
      have ok := kdF_ok g2
      have z72 : w3 72 = b := by
        funext i
        rw [s4 i, hb]
        dsimp only
        by_cases gi : i < N
        · rw [if_pos ⟨Nat.zero_le _, gi⟩, if_pos gi, u2 71 i (by omega), u1 71 i (by omega) (by omega)]
        · rw [if_neg (fun t => gi t.2), if_neg gi, u2 72 i (by omega), u1 72 i (by omega) (by omega)]
      have z : ∀ c j, c ≠ 72 → c ≠ 63 → w3 c j = w1 c j := fun c j q1 q2 => (s3 c j q1 (by omega)).trans (u2 c j q2)
      have z1 : w3 23 1 = .ofNat D := by rw [z 23 1 (by omega) (by omega), hw1, up_ne (by omega), up_ne (by omega), up_eq]
      have z2 : w3 23 2 = .ofNat D' := by rw [z 23 2 (by omega) (by omega), hw1, up_ne (by omega), up_eq]
      have z5 : w3 23 5 = (l.length : Int) := by rw [z 23 5 (by omega) (by omega), hw1, up_eq, hl]
      have z10 : w3 23 10 = 0 := by rw [z 23 10 (by omega) (by omega), k10]
      have z12 : w3 63 12 = 0 := by rw [s3 63 12 (by omega) (by omega), w212]
      have hT : rlT w3 := by
        refine ⟨by rw [z12, z10], by rw [z10]; omega, fun i hi => by rw [z10] at hi; omega, ?_⟩
        rw [z1, z2]
        rcases hD with ⟨rfl, rfl⟩ | ⟨rfl, rfl⟩
        · exact Or.inl ⟨rfl, rfl⟩
        · exact Or.inr ⟨rfl, rfl⟩
      have hLw : rlL w3 := by
        refine Or.inr ⟨N, hB.2.1, s2, fun i hi => ?_, ?_, ?_, ?_, fun i q hq => ?_⟩
        · rw [z72]
          exact (hB.2.2.1 i hi).2
        · rw [z72]
          exact ok.1
        · rw [z72]
          exact ok.2
        · rw [z72, z5, hl]
        · rw [z72] at hq
          rw [z1, show (Int.ofNat D).toNat = D from rfl, z D i (by omega) (by omega), hw1, up_ne (by omega), up_ne (by omega), up_ne (by omega)]
          show pm_up _ 23 10 0 D i = q
          rw [up_ne (by omega)]
          unfold kdS
          rw [if_neg (by omega), if_pos rfl, hq]
          rfl
      have zz : ∀ c j, ¬ (c = 72 ∨ c = 23 ∨ c = 25 ∨ c = 26 ∨ (c = 63 ∧ (j = 12 ∨ j = 14 ∨ (15 ≤ j ∧ j ≤ 19)))) → w3 c j = v c j := fun c j q => by
        by_cases g63 : c = 63
        · subst g63
          rw [s3 63 j (by omega) (by omega), u3 j (by omega), u1 63 j (by omega) (by omega)]
        · rw [z c j (by omega) g63, u1 c j (by omega) (by omega)]
      exact rlR_or h (Or.inr (fun c j q => zz c j (by unfold dsW at q; omega))) (Or.inr (fun c j q => zz c j (by unfold dsC at q; omega))) (Or.inl hT) (Or.inl hLw) (Or.inr (fun c j q => zz c j (by unfold dsD at q; omega))) (Or.inr (fun c j q => zz c j (by unfold dsG at q; omega))) (Or.inr (fun c j q => zz c j (by unfold dsB at q; omega))) (Or.inr (fun c j q => zz c j (by unfold dsS at q; omega))) (Or.inr (fun c j q => zz c j (by unfold dsN at q; omega)))
  · rw [if_neg g] at r1 r2
    refine ⟨-100 - F, w1, w2, r1, r2, ?_⟩
    have g2 : ¬ kdF b N < 0 := by omega
    rw [if_neg g2] at hw1
    have y23 : ∀ j, ¬ (j = 8 ∨ j = 9 ∨ j = 6 ∨ j = 10) → w1 23 j = v 23 j := fun j q => by
      rw [hw1]
      exact (up_ne (by omega)).trans (kd_23 (by omega))
    have z10 : w2 23 10 = 0 := by rw [u2 23 10 (by omega), k10]
    have z1 : w2 23 1 = v 23 1 := by rw [u2 23 1 (by omega), y23 1 (by omega)]
    have z2 : w2 23 2 = v 23 2 := by rw [u2 23 2 (by omega), y23 2 (by omega)]
    have z5 : w2 23 5 = v 23 5 := by rw [u2 23 5 (by omega), y23 5 (by omega)]
    have hT : rlT w2 := by
      refine ⟨by rw [w212, z10], by rw [z10]; omega, fun i hi => by rw [z10] at hi; omega, ?_⟩
      rw [z1, z2]
      exact e4
    have z72 : w2 72 = v 72 := funext (fun i => by rw [u2 72 i (by omega), u1 72 i (by omega) (by omega)])
    have z14 : w2 63 14 = v 63 14 := by rw [u3 14 (by omega), u1 63 14 (by omega) (by omega)]
    have zD : w2 (w2 23 1).toNat = v (v 23 1).toNat := funext (fun i => by
      rw [z1, hD1, show (Int.ofNat D').toNat = D' from rfl, u2 D' i (by omega), u1 D' i (by omega) (by omega)])
    have hLw : rlL w2 := by
      unfold rlL
      rw [zD, z5, z14, z72]
      exact h.2.2.2.1
    have zz : ∀ c j, ¬ (c = 23 ∨ c = 25 ∨ c = 26 ∨ (c = 63 ∧ (j = 12 ∨ (15 ≤ j ∧ j ≤ 19)))) → w2 c j = v c j := fun c j q => by
      by_cases g63 : c = 63
      · subst g63
        rw [u3 j (by omega), u1 63 j (by omega) (by omega)]
      · rw [u2 c j g63, u1 c j (by omega) (by omega)]
    exact rlR_or h (Or.inr (fun c j q => zz c j (by unfold dsW at q; omega))) (Or.inr (fun c j q => zz c j (by unfold dsC at q; omega))) (Or.inl hT) (Or.inl hLw) (Or.inr (fun c j q => zz c j (by unfold dsD at q; omega))) (Or.inr (fun c j q => zz c j (by unfold dsG at q; omega))) (Or.inr (fun c j q => zz c j (by unfold dsB at q; omega))) (Or.inr (fun c j q => zz c j (by unfold dsS at q; omega))) (Or.inr (fun c j q => zz c j (by unfold dsN at q; omega)))
end OTM
end
section
/-! THE LAW's minutes, on both sides alike; the ways keep the relation -/
section OTN
variable {L : Nat} {xs : Nat → Int} {d : Nat} {v w : Nat → Nat → Int}
/-- what the names are worth -/
def lwN (v : Nat → Nat → Int) (y s u : Nat) : Nat → Int := fun i => if i = 0 then v 3 y else if i = 1 then v 4 y else if i = 2 then v 5 y else if i = 3 then (s : Int) else if i = 4 then (y : Int) else (u : Int)
def lwC (v : Nat → Nat → Int) (y s u : Nat) : Int := pm_max 1 (pm_min 99 (if v 63 14 < 0 then 1 else vS (v 72) (v 63 14).toNat (lwN v y s u) 130 0 (-1) 0 0))
theorem lwC_b (y s u : Nat) : 1 ≤ lwC v y s u ∧ lwC v y s u ≤ 99 := by
  unfold lwC pm_max pm_min
  split <;> split <;> omega
theorem lw_cl (z : Int) : pm_max 1 (pm_min 99 z) = if z < 1 then 1 else if 99 < z then 99 else z := by
  unfold pm_max pm_min
  by_cases z1 : z < 1
  · rw [if_pos (show z < 99 by omega), if_neg (by omega), if_pos z1]
  · rw [if_neg z1]
    by_cases z2 : 99 < z
    · rw [if_neg (show ¬ z < 99 by omega), if_pos z2]
      rfl
    · rw [if_neg z2]
      by_cases z3 : z < 99
      · rw [if_pos z3]
        by_cases z4 : 1 < z
        · rw [if_pos z4]
        · rw [if_neg z4]
          omega
      · rw [if_neg z3]
        show (99 : Int) = z
        omega
theorem i6 {i : Nat} (h : i < 6) : i = 0 ∨ i = 1 ∨ i = 2 ∨ i = 3 ∨ i = 4 ∨ i = 5 := by omega
/-- the class -/
theorem k_minutes (hT : rlT v) (hL : rlL v) (hg : gW v w) {y s u : Nat} (hy : y < 30) : ∃ w', qE L xs (d + 8) nX5_minutes [(2, 23), (2, 1), (0, (y : Int)), (0, (s : Int)), (0, (u : Int))] (qS w) = some (some (0, lwC v y s u), qS w') ∧ fM w w' := by
  have ht := hT.2.2.2
  have g3 : w 3 = v 3 := hg.1 3 (by omega)
  have g4 : w 4 = v 4 := hg.1 4 (by omega)
  have g5 : w 5 = v 5 := hg.1 5 (by omega)
  rw [show d + 8 = d + 7 + 1 from rfl, e_X5_minutes, b_X5_minutes_0, hg.2 5 (by omega)]
  rcases hL with ⟨q1, q2⟩ | ⟨n, q1, q2, q3, q4, q5, q6, q7⟩
  · refine ⟨w, ?_, fun _ _ _ _ => rfl, fun _ _ => rfl⟩
    have : lwC v y s u = 1 := by
      unfold lwC
      rw [if_pos (by omega)]
      rfl
    rw [if_pos q1, b_X5_minutes_7, this]
  · obtain ⟨l, e1, e2⟩ := txS_e (b := v 72) (e := n) 129 0 (-1)
    have a := txS_le (b := v 72) (e := n) 130 0 (-1) (Nat.zero_le _)
    have len : (txS (v 72) n 130 0 (-1)).1.length = l.length + 1 := by
      rw [e1, List.length_append]
      rfl
    obtain ⟨D, hD, hD1⟩ : ∃ D : Nat, (D = 25 ∨ D = 26) ∧ v 23 1 = .ofNat D := by
      rcases ht with ⟨t1, t2⟩ | ⟨t1, t2⟩
      · exact ⟨25, Or.inl rfl, t1⟩
      · exact ⟨26, Or.inr rfl, t1⟩
    have gD : w D = v D := hg.1 D (by omega)
    have v1 : ∀ u, qE L xs (d + 7) nX9_value [(2, 1), (0, 0), (0, (y : Int))] (qS u) = some (some (0, u 3 y), qS u) := fun u => c_value_in (d := d + 4) 0 (y : Int) (by omega) (by omega) (by omega) (by show (y : Int) < 30; omega) (by omega)
    have v2 : ∀ u, qE L xs (d + 7) nX9_value [(2, 1), (0, 1), (0, (y : Int))] (qS u) = some (some (0, u 4 y), qS u) := fun u => c_value_in (d := d + 4) 1 (y : Int) (by omega) (by omega) (by omega) (by show (y : Int) < 30; omega) (by omega)
    have v3 : ∀ u, qE L xs (d + 7) nX9_value [(2, 1), (0, 2), (0, (y : Int))] (qS u) = some (some (0, u 5 y), qS u) := fun u => c_value_in (d := d + 4) 2 (y : Int) (by omega) (by omega) (by omega) (by show (y : Int) < 30; omega) (by omega)
    obtain ⟨x, hx⟩ : ∃ x, x = pm_up (pm_up (pm_up (pm_up (pm_up (pm_up w 27 0 (w 3 y)) 27 1 (w 4 y)) 27 2 (w 5 y)) 27 3 (s : Int)) 27 4 (y : Int)) 27 5 (u : Int) := ⟨_, rfl⟩
    have xo : ∀ c j, c ≠ 27 → x c j = w c j := fun c j q => by
      rw [hx, up_ne (by omega), up_ne (by omega), up_ne (by omega), up_ne (by omega), up_ne (by omega), up_ne (by omega)]
    have xn : ∀ i, i < 6 → x 27 i = lwN v y s u i := fun i hi => by
      rcases i6 hi with rfl | rfl | rfl | rfl | rfl | rfl
      · rw [hx, up_ne (by omega), up_ne (by omega), up_ne (by omega), up_ne (by omega), up_ne (by omega), up_eq, g3]
        rfl
      · rw [hx, up_ne (by omega), up_ne (by omega), up_ne (by omega), up_ne (by omega), up_eq, g4]
        rfl
      · rw [hx, up_ne (by omega), up_ne (by omega), up_ne (by omega), up_eq, g5]
        rfl
      · rw [hx, up_ne (by omega), up_ne (by omega), up_eq]
        rfl
      · rw [hx, up_ne (by omega), up_eq]
        rfl
      · rw [hx, up_eq]
        rfl
    obtain ⟨w', p1, p2⟩ := k_workOut (L := L) (xs := xs) (d := d + 1) (v := x) (nm := lwN v y s u) xn hD (by rw [xo 23 1 (by omega), hg.2 1 (by omega)]; exact hD1) (l := l) (by rw [xo 23 5 (by omega), hg.2 5 (by omega), q6, e1]) (by rw [← e1, len]; omega) (fun j z hz => by
      rw [xo D j (by omega), gD]
      rw [← e1] at hz
      have := q7 j z hz
      rw [hD1] at this
      exact this) e2
    have val : cwk (lwN v y s u) (l ++ [-59]) [] 0 = vS (v 72) n (lwN v y s u) 130 0 (-1) 0 0 := by
      rw [← e1]
      exact cwk_all q1 130 0 (-1) [] (Nat.zero_le _) q4
    have lw : lwC v y s u = pm_max 1 (pm_min 99 (cwk (lwN v y s u) (l ++ [-59]) [] 0)) := by
      unfold lwC
      rw [if_neg (by omega), q2, Int.toNat_natCast, val]
    have n5 : ¬ v 23 5 = 0 := by omega
    refine ⟨w', ?_, fun c a1 a2 a3 => ?_, fun k hk => ?_⟩
    · rw [if_neg n5, b_X5_minutes_9, v1, qB_some, psh_some, b_X5_minutes_20, if_pos (by decide), b_X5_minutes_21, v2, qB_some, psh_some, b_X5_minutes_32, if_pos (by decide), b_X5_minutes_33, v3, qB_some, psh_some, b_X5_minutes_44, if_pos (by decide), b_X5_minutes_45, b_X5_minutes_52, b_X5_minutes_59, b_X5_minutes_67]
      rw [up_ne (a := 4) (by omega), up_ne (a := 5) (by omega), up_ne (a := 5) (by omega)]
      rw [show pm_up (pm_up (pm_up (pm_up (pm_up (pm_up w 27 (Int.toNat 0) (w 3 y)) 27 (Int.toNat 1) (w 4 y)) 27 (Int.toNat 2) (w 5 y)) 27 3 (s : Int)) 27 4 (y : Int)) 27 5 (u : Int) = x from hx.symm, show d + 7 = d + 1 + 6 from rfl, p1, qB_some, psh_some, b_X5_minutes_74, lw]
    · rw [p2.1 c a1 a2 a3]
      exact funext (fun k => xo c k a2)
    · rw [p2.2 k hk]
      exact xo 23 k (by omega)
/-- the reference -/
theorem m_walksFor (hW : rlW v) (hL : rlL v) (hg : gN v w) {y s u : Nat} (hy : y < 30) : ∃ w', qE L xs (d + 90) nX12_walksFor [(2, 63), (0, (y : Int)), (0, (s : Int)), (0, (u : Int))] (qS w) = some (some (0, lwC v y s u), qS w') ∧ fK w w' := by
  have g64 : w 64 = v 64 := hg.1 64 (by omega)
  have g72 : w 72 = v 72 := hg.1 72 (by omega)
  have g14 : w 63 14 = v 63 14 := hg.2 14 (by omega)
  rw [show d + 90 = d + 89 + 1 from rfl, e_X12_walksFor, b_X12_walksFor_0, g14]
  rcases hL with ⟨q1, q2⟩ | ⟨n, q1, q2, q3, q4, q5, q6, q7⟩
  · refine ⟨w, ?_, fun _ _ _ => rfl, fun _ _ => rfl⟩
    have : lwC v y s u = 1 := by
      unfold lwC
      rw [if_pos (by omega)]
      rfl
    rw [if_pos (by omega), b_X12_walksFor_7, this]
  · have v1 : ∀ z, z 64 = v 64 → qE L xs (d + 89) nX12_thickOf [(2, 63), (0, (y : Int))] (qS z) = some (some (0, v 3 y), qS z) := fun z hz => by
      rw [show d + 89 = d + 88 + 1 from rfl, e_X12_thickOf, b_X12_thickOf_0, if_pos (by omega), Int.toNat_natCast, hz, rM_t hW y hy, b_X12_thickOf_6]
    have v2 : ∀ z, z 64 = v 64 → qE L xs (d + 89) nX12_warmOf [(2, 63), (0, (y : Int))] (qS z) = some (some (0, v 4 y), qS z) := fun z hz => by
      rw [show d + 89 = d + 88 + 1 from rfl, e_X12_warmOf, b_X12_warmOf_0, w32_id (z := 30 + (y : Int)) (by omega) (by omega), if_pos (by omega), show (30 + (y : Int)).toNat = 30 + y by omega, hz, rM_w hW y hy, b_X12_warmOf_9]
    have v3 : ∀ z, z 64 = v 64 → qE L xs (d + 89) nX12_ownerOf [(2, 63), (0, (y : Int))] (qS z) = some (some (0, v 5 y), qS z) := fun z hz => by
      rw [show d + 89 = d + 88 + 1 from rfl, e_X12_ownerOf, b_X12_ownerOf_0, w32_id (z := 60 + (y : Int)) (by omega) (by omega), if_pos (by omega), show (60 + (y : Int)).toNat = 60 + y by omega, hz, rM_o hW y hy, b_X12_ownerOf_9]
    obtain ⟨x, hx⟩ : ∃ x, x = pm_up (pm_up (pm_up (pm_up (pm_up (pm_up w 73 0 (v 3 y)) 73 1 (v 4 y)) 73 2 (v 5 y)) 73 3 (s : Int)) 73 4 (y : Int)) 73 5 (u : Int) := ⟨_, rfl⟩
    have xo : ∀ c j, c ≠ 73 → x c j = w c j := fun c j q => by
      rw [hx, up_ne (by omega), up_ne (by omega), up_ne (by omega), up_ne (by omega), up_ne (by omega), up_ne (by omega)]
    have xn : ∀ i, i < 6 → x 73 i = lwN v y s u i := fun i hi => by
      rcases i6 hi with rfl | rfl | rfl | rfl | rfl | rfl
      · rw [hx, up_ne (by omega), up_ne (by omega), up_ne (by omega), up_ne (by omega), up_ne (by omega), up_eq]
        rfl
      · rw [hx, up_ne (by omega), up_ne (by omega), up_ne (by omega), up_ne (by omega), up_eq]
        rfl
      · rw [hx, up_ne (by omega), up_ne (by omega), up_ne (by omega), up_eq]
        rfl
      · rw [hx, up_ne (by omega), up_ne (by omega), up_eq]
        rfl
      · rw [hx, up_ne (by omega), up_eq]
        rfl
      · rw [hx, up_eq]
        rfl
    have x14 : x 63 14 = (n : Int) := by rw [xo 63 14 (by omega), g14, q2]
    have rb : rdB (rdT x 0 n) (v 72) n := by
      refine ⟨up_eq _ _ _ _, q1, q3, Or.inr ⟨?_, fun i hi => ?_⟩⟩
      · unfold rdT
        rw [up_ne (by omega), up_eq]
      · unfold rdT
        rw [up_ne (by omega), up_ne (by omega), xo 72 i (by omega), g72]
    obtain ⟨o', p⟩ := mr_workOut (L := L) (xs := xs) (v := x) (nm := lwN v y s u) rb xn (d + 43)
    rw [if_neg (fun t => by have := t.2; omega)] at p
    have lw : lwC v y s u = pm_max 1 (pm_min 99 (vS (v 72) n (lwN v y s u) 130 0 (-1) 0 0)) := by
      unfold lwC
      rw [if_neg (by omega), q2, Int.toNat_natCast]
    refine ⟨rdS (rdT x 0 n) ((txS (v 72) n 130 0 (-1)).2.1 : Int) (if (txS (v 72) n 130 0 (-1)).2.2 < 0 ∧ (txS (v 72) n 130 0 (-1)).2.1 < n then ((txS (v 72) n 130 0 (-1)).2.1 : Int) else (txS (v 72) n 130 0 (-1)).2.2) o', ?_, fun c a1 a2 => ?_, fun k hk => ?_⟩
    · have h64 : ∀ i z, pm_up w 73 i z 64 = v 64 := fun i z => by
        rw [← g64]
        exact funext (fun k => up_ne (by omega))
      rw [if_neg (by omega), b_X12_walksFor_9, v1 w g64, qB_some, psh_some, b_X12_walksFor_19, if_pos (by decide), b_X12_walksFor_20, v2 _ (h64 _ _), qB_some, psh_some, b_X12_walksFor_30, if_pos (by decide), b_X12_walksFor_31, v3 _ (by rw [← h64 0 0]; exact funext (fun k => by rw [up_ne (by omega), up_ne (by omega), up_ne (by omega)])), qB_some, psh_some, b_X12_walksFor_41, if_pos (by decide), b_X12_walksFor_42, b_X12_walksFor_49, b_X12_walksFor_56]
      rw [show pm_up (pm_up (pm_up (pm_up (pm_up (pm_up w 73 (Int.toNat 0) (v 3 y)) 73 (Int.toNat 1) (v 4 y)) 73 (Int.toNat 2) (v 5 y)) 73 3 (s : Int)) 73 4 (y : Int)) 73 5 (u : Int) = x from hx.symm, b_X12_walksFor_63, x14, show d + 89 = d + 43 + 46 from rfl, p, qB_some, psh_some, b_X12_walksFor_72, lw]
      generalize vS (v 72) n (lwN v y s u) 130 0 (-1) 0 0 = z
      rw [lw_cl]
      by_cases z1 : z < 1
      · rw [if_pos z1, if_pos z1, b_X12_walksFor_80, b_X12_walksFor_98]
      · rw [if_neg z1, if_neg z1, b_X12_walksFor_84]
        by_cases z2 : 99 < z
        · rw [if_pos z2, if_pos z2, b_X12_walksFor_91, b_X12_walksFor_98]
        · rw [if_neg z2, if_neg z2, b_X12_walksFor_96, b_X12_walksFor_98]
    · funext j
      rw [rd_ne (by omega)]
      unfold rdT
      rw [up_ne (by omega), up_ne (by omega), xo c j a2]
    · rw [rd_ne (by omega)]
      unfold rdT
      rw [up_ne (by omega), up_ne (by omega), xo 63 k (by omega)]
theorem rl_Wz (h : rlR v) : Wz L xs v (lwC v) := ⟨rW_WW h.1, rW_CW h.1, ⟨lwC_b, fun w hw d y s u hy _ _ => k_minutes h.2.2.1 h.2.2.2.1 hw hy⟩, ⟨lwC_b, fun w hw d y s u hy _ _ => m_walksFor h.1 h.2.2.2.1 hw hy⟩, h.2.2.2.2.2.2.2.2.1⟩
theorem opr_way (h : rlR v) (y w : Int) (hy : y < 2147483648) : opR L xs v nX11_way nX12_way 0 [(0, y), (0, w)] := opR_W h (op_way (rl_Wz h) y w hy)
theorem opr_far (h : rlR v) (a w : Int) : opR L xs v nX11_far nX12_far 0 [(0, a), (0, w)] := opR_W h (op_far (rl_Wz h) a w)
theorem opr_reach (h : rlR v) (a w : Int) (hw : w < 2147483648) : opR L xs v nX11_reach nX12_reach 0 [(0, a), (0, w)] := opR_W h (op_reach (rl_Wz h) a w hw)
theorem opr_widest (h : rlR v) : opR L xs v nX11_widest nX12_widest 0 [] := opR_W h (op_widest (rl_Wz h))
theorem opr_dig (h : rlR v) (w : Int) : opR L xs v nX11_dig nX12_dig 0 [(0, w)] := opR_W h (op_dig (rl_Wz h) w)
theorem opr_spare (h : rlR v) (y w : Int) (hy : y < 2147483648) : opR L xs v nX11_spare nX12_spare 0 [(0, y), (0, w)] := opR_W h (op_spare (rl_Wz h) y w hy)
theorem opr_drawn (h : rlR v) (a z n w : Int) : opR L xs v nX11_drawn nX12_drawn 0 [(0, a), (0, z), (0, n), (0, w)] := opR_W h (op_drawn (rl_Wz h) a z n w)
end OTN
end
section
/-! go keeps the relation -/
section OTO
variable {L : Nat} {xs : Nat → Int} {d : Nat} {v w : Nat → Nat → Int}
theorem goM_o (u : Nat → Nat → Int) (a r : Int) {c j : Nat} (h : ¬ (c = 63 ∧ (j = 32 ∨ j = 33 ∨ j = 34))) : goM u a r c j = u c j := by
  unfold goM
  rw [up_ne (by omega), up_ne (by omega), up_ne (by omega)]
theorem goC_o (u : Nat → Nat → Int) (a r : Int) {c j : Nat} (h : ¬ (c = 47 ∧ j < 3)) : goC u a r c j = u c j := by
  unfold goC
  rw [up_ne (by omega), up_ne (by omega), up_ne (by omega)]
theorem opr_go (h : rlR v) (a : Int) : opR L xs v nX11_go nX12_go 0 [(0, a)] := by
  have hG0 := h.2.2.2.2.2.1
  obtain ⟨r, v1, v2, h1, h2, h3⟩ := op_go (L := L) (xs := xs) (d := 900) (rl_Wz h) hG0.1.1 a
  refine ⟨r, v1, v2, h1, h2, ?_⟩
  rcases h3 with ⟨q1, q2⟩ | ⟨u1, u2, q1, q2, q3, q4, q5, q6, q7, q8⟩
  · exact rlR_fP q2 (rlR_fW q1 h)
  · have hu := rlR_fW q1 h
    have hL := rW_L h.1
    obtain ⟨⟨g1, g2, g3, g4⟩, g5, g6, g7, g8⟩ := hu.2.2.2.2.2.1
    obtain ⟨y, hy⟩ : ∃ y, y = goM (goC u1 a r) a r := ⟨_, rfl⟩
    have yo : ∀ c j, ¬ (c = 63 ∧ (j = 32 ∨ j = 33 ∨ j = 34)) → ¬ (c = 47 ∧ j < 3) → y c j = u1 c j := fun c j a1 a2 => by rw [hy, goM_o _ _ _ a1, goC_o _ _ _ a2]
    have e32 : y 63 32 = a := by
      rw [hy]
      unfold goM
      rw [up_ne (by omega), up_ne (by omega), up_eq]
    have e33 : y 63 33 = w32 (u1 63 33 + r) := by
      rw [hy]
      unfold goM
      rw [up_ne (by omega), up_eq, goC_o _ _ _ (by omega)]
    have e34 : y 63 34 = w32 (u1 63 34 + 1) := by
      rw [hy]
      unfold goM
      rw [up_eq, goC_o _ _ _ (by omega)]
    have c0 : y 47 0 = a := by
      rw [hy, goM_o _ _ _ (by omega)]
      unfold goC
      rw [up_ne (by omega), up_ne (by omega), up_eq]
    have c1 : y 47 1 = w32 (u1 47 1 + r) := by
      rw [hy, goM_o _ _ _ (by omega)]
      unfold goC
      rw [up_ne (by omega), up_eq]
    have c2 : y 47 2 = w32 (u1 47 2 + 1) := by
      rw [hy, goM_o _ _ _ (by omega)]
      unfold goC
      rw [up_eq]
    have hG : rlG y := by
      refine ⟨⟨by rw [e32, c0], by rw [e33, c1, g2], by rw [e34, c2, g3], ?_⟩, by rw [c0]; omega, ?_, ?_, ?_⟩
      · rw [yo 63 35 (by omega) (by omega), yo 47 3 (by omega) (by omega)]
        exact g4
      · rw [yo 0 11 (by omega) (by omega), yo 83 3 (by omega) (by omega), yo 83 0 (by omega) (by omega), yo 83 1 (by omega) (by omega), yo 83 2 (by omega) (by omega), yo 48 0 (by omega) (by omega), yo 48 1 (by omega) (by omega), yo 48 2 (by omega) (by omega), yo 48 3 (by omega) (by omega)]
        exact g6
      · rw [yo 63 36 (by omega) (by omega), yo 0 11 (by omega) (by omega)]
        exact g7
      · rw [yo 0 11 (by omega) (by omega)]
        exact g8
    have hy2 : rlR y := rlR_or hu (Or.inr (fun c j q => yo c j (by unfold dsW at q; omega) (by unfold dsW at q; omega))) (Or.inr (fun c j q => yo c j (by unfold dsC at q; omega) (by unfold dsC at q; omega))) (Or.inr (fun c j q => yo c j (by unfold dsT at q; omega) (by unfold dsT at q; omega))) (Or.inr (fun c j q => yo c j (by unfold dsL at q; omega) (by unfold dsL at q; omega))) (Or.inr (fun c j q => yo c j (by unfold dsD at q; omega) (by unfold dsD at q; omega))) (Or.inl hG) (Or.inr (fun c j q => yo c j (by unfold dsB at q; omega) (by unfold dsB at q; omega))) (Or.inr (fun c j q => yo c j (by unfold dsS at q; omega) (by unfold dsS at q; omega))) (Or.inr (fun c j q => yo c j (by unfold dsN at q; omega) (by unfold dsN at q; omega)))
    rw [q2] at q3
    have p : fP y v2 := by
      have d3 : ∀ k, 24 < k → goM u2 a r 63 k = goM (goC u1 a r) a r 63 k := fun k hk => by
        unfold goM pm_up
        rw [q3.1.2 k (by omega), q3.1.2 33 (by omega), q3.1.2 34 (by omega)]
      rw [hy, q4]
      refine ⟨⟨fun c hc => funext (fun j => ?_), fun k hk => ?_⟩, ?_, ?_, ?_⟩
      · rw [goM_o _ _ _ (by omega), goM_o _ _ _ (by omega), q3.1.1 c hc]
      · by_cases z : 24 < k
        · exact d3 k z
        · rw [goM_o _ _ _ (by omega), goM_o _ _ _ (by omega), q3.1.2 k hk]
      · rw [goM_o _ _ _ (by omega), goM_o _ _ _ (by omega), q3.2.1]
      · rw [goM_o _ _ _ (by omega), goM_o _ _ _ (by omega), q3.2.2.1]
      · rw [goM_o _ _ _ (by omega), goM_o _ _ _ (by omega), q3.2.2.2]
    exact rlR_fP p hy2
end OTO
end
