/-! THE LAW as the class reads it: operands, lines, the tape -/
section OTL
variable {L : Nat} {xs : Nat → Int} {d : Nat} {v : Nat → Nat → Int} {b : Nat → Int} {e D : Nat}
theorem w_o1 {o : Nat} (h : o ≤ 6) : w32 ((o : Int) + 1) = ((o + 1 : Nat) : Int) := by
  rw [w32_id (by omega) (by omega)]
  omega
theorem kd_operand (h : kB v b e D) {n o k : Nat} {f : Int} {l : List Int} (hO : ∀ d, kdO L xs d v D b e n) (hA : kdA L xs d v D b e n) (ho : o ≤ 6) (hk : k ≤ e) (hf : f < 0) (hl : l.length ≤ k) (hn : 20 * (120 - k) + 2 < n + 1) : qE L xs (dpK d o 6) nX5_readOperand [(2, 23), (0, (o : Int))] (qS (kdS v D (k : Int) f l)) = some (none, qS (kdS v D ((txP b e (n + 1) 5 o k f).2.1 : Int) (txP b e (n + 1) 5 o k f).2.2 (l ++ (txP b e (n + 1) 5 o k f).1))) := by
  have he := h.2.1
  obtain ⟨Dq, hD, hDq⟩ : ∃ Dq, dpK d o 6 = Dq + 10 ∧ Dq = d + 7 * (6 - o) := ⟨d + 7 * (6 - o), dk_6 d o, rfl⟩
  have s0 : qE L xs (Dq + 9) nX5_skip [(2, 23), (2, 2000)] (qS (kdS v D (k : Int) f l)) = _ := sk_0 (d := Dq + 4) h
  have dg : qE L xs (Dq + 9) nX5_isDigitAhead [(2, 23)] (qS (kdS v D (k : Int) f l)) = _ := k_digit (d := Dq + 8) h
  have s1 : qE L xs (Dq + 9) nX5_skip [(2, 23), (2, 2001)] (qS (kdS v D (k : Int) f l)) = _ := sk_1 (d := Dq + 4) h
  -- nothing that may stand there
  have bad : ∀ x2 : Int, qG L xs (Dq + 9) CX5_readOperand 53 [(2, 23), (0, (o : Int)), (0, x2), (9, 0)] [(0, 0)] (qS (kdS v D (k : Int) f l)) = some (none, qS (kdS v D (k : Int) (k : Int) (l ++ []))) := fun x2 => by
    rw [b_X5_readOperand_53, if_pos rfl, b_X5_readOperand_58, show Dq + 9 = Dq + 8 + 1 from rfl, k_fail, if_pos hf, qB_some, psh_none, b_X5_readOperand_62, b_X5_readOperand_119, List.append_nil]
  rw [hD, show Dq + 10 = Dq + 9 + 1 from rfl, e_X5_readOperand, b_X5_readOperand_0, s0, tx_op hf]
  by_cases hk2 : k < e
  · obtain ⟨-, b0, b1⟩ := h.2.2.1 k hk2
    rw [if_pos hk2]
    by_cases q1 : 0 ≤ nmI (b k)
    · have bz : b k ≠ 0 := fun z => by
        rw [nm_no (Or.inr (Or.inr (Or.inr (Or.inl z))))] at q1
        omega
      have nr := nmI_r (b k)
      have ix : qE L xs (Dq + 9) nJ0_indexOf_0f7a4 [(2, 2000), (0, b k)] (qS (kdS v D ((k : Int) + 1) f l)) = some (some (0, nmI (b k)), qS (kdS v D ((k : Int) + 1) f l)) := by
        rw [show Dq + 9 = Dq + 5 + 4 from rfl, jx_0 _ b0 b1, jn_0 _ b0 b1]
      have wr : qE L xs (Dq + 9) nX5_write [(2, 23), (0, -1 - nmI (b k))] (qS (kdS v D ((k : Int) + 1) f l)) = some (none, qS (kdS v D ((k : Int) + 1) f (l ++ [-1 - nmI (b k)]))) := k_write (d := Dq + 8) h (by omega) _
      rw [if_pos ⟨hf, hk2, q1⟩, if_pos q1, qB_some, psh_some, b_X5_readOperand_6, if_neg bz, b_X5_readOperand_11, show b k % 65536 = b k by omega, ix, qB_some, psh_some, b_X5_readOperand_20, w32_id (by omega) (by omega), wr, qB_some, psh_none, b_X5_readOperand_24]
      rfl
    · rw [if_neg (fun t => q1 t.2.2), if_neg q1, qB_some, psh_some, b_X5_readOperand_6, if_pos rfl, b_X5_readOperand_25]
      by_cases q2 : dgt (b k)
      · have nu : qE L xs (Dq + 9) nX5_readNumber [(2, 23)] (qS (kdS v D (k : Int) f l)) = _ := k_number (d := Dq + 7) h hf (by omega) hk
        have dv : (if f < 0 ∧ k < e ∧ dgt (b k) then (1 : Int) else 0) = 1 := if_pos ⟨hf, hk2, q2⟩
        rw [dg, dv, qB_some, psh_some, b_X5_readOperand_29, if_neg (by decide), if_pos q2, b_X5_readOperand_32, nu, qB_some, psh_none, b_X5_readOperand_36]
      · have dv : (if f < 0 ∧ k < e ∧ dgt (b k) then (1 : Int) else 0) = 0 := if_neg (fun t => q2 t.2.2)
        rw [dg, dv, qB_some, psh_some, b_X5_readOperand_29, if_pos rfl, if_neg q2, b_X5_readOperand_37]
        clear dv dg
        by_cases o6 : o < 6
        · rw [if_pos (show (o : Int) < 6 by omega), b_X5_readOperand_43, s1]
          by_cases q3 : b k = 40
          · have p := hA 0 (o + 1) (k + 1) f l (by omega) (by omega) (by omega) hf (by omega) (by have : rkT 0 = 12 := rfl; rw [this]; omega)
            have dd : dpK d (o + 1) 0 = Dq + 9 := by
              unfold dpK
              omega
            rw [dd, show ((k + 1 : Nat) : Int) = (k : Int) + 1 by omega] at p
            have s2 : qE L xs (Dq + 9) nX5_skip [(2, 23), (2, 2002)] (qS (kdS v D ((txP b e n 0 (o + 1) (k + 1) f).2.1 : Int) (txP b e n 0 (o + 1) (k + 1) f).2.2 (l ++ (txP b e n 0 (o + 1) (k + 1) f).1))) = _ := sk_2 (d := Dq + 4) h
            rw [if_pos ⟨hf, hk2, Or.inl q3⟩, if_pos ⟨o6, q3⟩, qB_some, psh_some, b_X5_readOperand_49, b_X5_readOperand_53, if_neg (by omega), b_X5_readOperand_65, if_pos q3, b_X5_readOperand_71, w_o1 ho, show qE L xs (Dq + 9) nX5_readLevel [(2, 23), (0, 0), (0, ((o + 1 : Nat) : Int))] (qS (kdS v D ((k : Int) + 1) f l)) = _ from p, qB_some, psh_none, b_X5_readOperand_79, s2]
            by_cases q4 : (txP b e n 0 (o + 1) (k + 1) f).2.2 < 0 ∧ (txP b e n 0 (o + 1) (k + 1) f).2.1 < e ∧ b (txP b e n 0 (o + 1) (k + 1) f).2.1 = 41
            · rw [if_pos q4, if_pos q4, qB_some, psh_some, b_X5_readOperand_85, if_neg (by omega), b_X5_readOperand_119]
              rfl
            · rw [if_neg q4, if_neg q4, qB_some, psh_some, b_X5_readOperand_85, if_pos rfl, b_X5_readOperand_88, show Dq + 9 = Dq + 8 + 1 from rfl, k_fail, qB_some, psh_none, b_X5_readOperand_92, b_X5_readOperand_119]
          · by_cases q4 : b k = 33 ∨ b k = 45
            · have p := hO (d + 6) (o + 1) (k + 1) f l (by omega) (by omega) hf (by omega) (by omega)
              have le := txP_le (b := b) (e := e) n 5 (o + 1) (k + 1) f (by omega)
              have dd : dpK (d + 6) (o + 1) 6 = Dq + 9 := by
                unfold dpK
                omega
              rw [dd, show ((k + 1 : Nat) : Int) = (k : Int) + 1 by omega] at p
              have wr : ∀ z : Int, qE L xs (Dq + 9) nX5_write [(2, 23), (0, z)] (qS (kdS v D ((txP b e n 5 (o + 1) (k + 1) f).2.1 : Int) (txP b e n 5 (o + 1) (k + 1) f).2.2 (l ++ (txP b e n 5 (o + 1) (k + 1) f).1))) = some (none, qS (kdS v D ((txP b e n 5 (o + 1) (k + 1) f).2.1 : Int) (txP b e n 5 (o + 1) (k + 1) f).2.2 (l ++ (txP b e n 5 (o + 1) (k + 1) f).1 ++ [z]))) := fun z => k_write (d := Dq + 8) h (by rw [List.length_append]; omega) z
              rw [if_pos ⟨hf, hk2, Or.inr q4⟩, if_neg (fun t => q3 t.2), if_pos ⟨o6, q4⟩, qB_some, psh_some, b_X5_readOperand_49, b_X5_readOperand_53, if_neg (by omega), b_X5_readOperand_65, if_neg q3, b_X5_readOperand_95, w_o1 ho, p, qB_some, psh_none, b_X5_readOperand_102]
              dsimp only
              rw [← List.append_assoc]
              by_cases q5 : b k = 45
              · rw [if_pos q5, if_pos q5, b_X5_readOperand_109, b_X5_readOperand_116, wr, qB_some, psh_none, b_X5_readOperand_119]
              · rw [if_neg q5, if_neg q5, b_X5_readOperand_114, b_X5_readOperand_116, wr, qB_some, psh_none, b_X5_readOperand_119]
            · rw [if_neg (fun t => by have := t.2.2; omega), if_neg (fun t => q3 t.2), if_neg (fun t => q4 t.2), qB_some, psh_some, b_X5_readOperand_49]
              exact bad _
        · rw [if_neg (by omega), if_neg (fun t => o6 t.1), if_neg (fun t => o6 t.1), b_X5_readOperand_52]
          exact bad _
  · rw [if_neg (fun t => hk2 t.2.1), if_neg hk2, qB_some, psh_some, b_X5_readOperand_6, if_pos rfl, b_X5_readOperand_25, dg, if_neg (fun t => hk2 t.2.1), qB_some, psh_some, b_X5_readOperand_29, if_pos rfl, b_X5_readOperand_37]
    by_cases o6 : o < 6
    · rw [if_pos (by omega), b_X5_readOperand_43, s1, if_neg (fun t => hk2 t.2.1), qB_some, psh_some, b_X5_readOperand_49]
      exact bad _
    · rw [if_neg (by omega), b_X5_readOperand_52]
      exact bad _
/-- all of it, level by level -/
theorem kd_all (h : kB v b e D) : ∀ n d, kdO L xs d v D b e n ∧ kdA L xs d v D b e n ∧ kdC L xs d v D b e n
  | 0, d => ⟨fun o k f l _ _ _ _ h6 => absurd h6 (by omega), fun m o k f l _ _ _ _ _ h6 => absurd h6 (by omega), fun m o k i f l _ _ _ _ _ _ h6 => absurd h6 (by omega)⟩
  | n + 1, d => by
    have ih := kd_all h n
    have op : kdO L xs d v D b e (n + 1) := fun o k f l ho hk hf hl hn => kd_operand h (fun d => (ih d).1) (ih d).2.1 ho hk hf hl hn
    refine ⟨op, fun m o k f l hm ho hk hf hl hn => ?_, kd_loop h (ih d).2.1 (ih d).2.2⟩
    by_cases g : m < 5
    · exact kd_level h (ih d).2.1 (ih d).2.2 g ho hk hf hl hn
    · have : m = 5 := by omega
      subst this
      rw [dk_lev (show 5 < 6 by omega), e_X5_readLevel, b_X5_readLevel_0, if_neg (by decide), b_X5_readLevel_5, show dpK d o (5 + 1) = dpK d o 6 from rfl, op o k f l ho hk hf hl hn, qB_some, psh_none, b_X5_readLevel_10]
/-- a whole E -/
theorem kd_either (h : kB v b e D) {k : Nat} {f : Int} {l : List Int} (hk : k ≤ e) (hf : f < 0) (hl : l.length ≤ k) : qE L xs (d + 58) nX5_readLevel [(2, 23), (0, 0), (0, 0)] (qS (kdS v D (k : Int) f l)) = some (none, qS (kdS v D ((txP b e 2500 0 0 k f).2.1 : Int) (txP b e 2500 0 0 k f).2.2 (l ++ (txP b e 2500 0 0 k f).1))) :=
  (kd_all (L := L) (xs := xs) h 2500 d).2.1 0 0 k f l (by omega) (by omega) hk hf hl (by have : rkT 0 = 12 := rfl; have := h.2.1; omega)
theorem kd_line (h : kB v b e D) {k : Nat} {f : Int} {l : List Int} (hk : k ≤ e) (hf : f < 0) (hl : l.length ≤ k) : qE L xs (d + 59) nX5_readLine [(2, 23)] (qS (kdS v D (k : Int) f l)) = some (none, qS (kdS v D ((txL b e k f).2.1 : Int) (txL b e k f).2.2 (l ++ (txL b e k f).1))) := by
  have he := h.2.1
  have a := txP_le (b := b) (e := e) 2500 0 0 k f hk
  have sk : qE L xs (d + 58) nX5_skip [(2, 23), (2, 2008)] (qS (kdS v D ((txP b e 2500 0 0 k f).2.1 : Int) (txP b e 2500 0 0 k f).2.2 (l ++ (txP b e 2500 0 0 k f).1))) = _ := sk_8 (d := d + 53) h
  have l1 : (l ++ (txP b e 2500 0 0 k f).1).length ≤ (txP b e 2500 0 0 k f).2.1 := by
    rw [List.length_append]
    omega
  rw [show d + 59 = d + 58 + 1 from rfl, e_X5_readLine, b_X5_readLine_0, kd_either h hk hf hl, qB_some, psh_none, b_X5_readLine_6, sk]
  by_cases q : (txP b e 2500 0 0 k f).2.2 < 0 ∧ (txP b e 2500 0 0 k f).2.1 < e ∧ b (txP b e 2500 0 0 k f).2.1 = 63
  · have w1 : qE L xs (d + 58) nX5_write [(2, 23), (0, -63)] (qS (kdS v D (((txP b e 2500 0 0 k f).2.1 : Int) + 1) (txP b e 2500 0 0 k f).2.2 (l ++ (txP b e 2500 0 0 k f).1))) = _ := k_write (d := d + 57) h (by omega) (-63)
    have l2 : (l ++ (txP b e 2500 0 0 k f).1 ++ [-63]).length ≤ (txP b e 2500 0 0 k f).2.1 + 1 := by
      rw [List.length_append, List.length_cons, List.length_nil]
      omega
    have e2 := kd_either (L := L) (xs := xs) (d := d) (k := (txP b e 2500 0 0 k f).2.1 + 1) h (by omega) q.1 l2
    rw [show (((txP b e 2500 0 0 k f).2.1 + 1 : Nat) : Int) = ((txP b e 2500 0 0 k f).2.1 : Int) + 1 by omega] at e2
    have c := txP_le (b := b) (e := e) 2500 0 0 ((txP b e 2500 0 0 k f).2.1 + 1) (txP b e 2500 0 0 k f).2.2 (by omega)
    have w2 := k_write (L := L) (xs := xs) (d := d + 57) (k := ((txP b e 2500 0 0 ((txP b e 2500 0 0 k f).2.1 + 1) (txP b e 2500 0 0 k f).2.2).2.1 : Int)) (f := (txP b e 2500 0 0 ((txP b e 2500 0 0 k f).2.1 + 1) (txP b e 2500 0 0 k f).2.2).2.2) (l := l ++ (txP b e 2500 0 0 k f).1 ++ [-63] ++ (txP b e 2500 0 0 ((txP b e 2500 0 0 k f).2.1 + 1) (txP b e 2500 0 0 k f).2.2).1) h (by rw [List.length_append]; omega) (-59)
    rw [if_pos q, qB_some, psh_some, b_X5_readLine_12, if_neg (by omega), b_X5_readLine_15, w1, qB_some, psh_none, b_X5_readLine_21, e2, qB_some, psh_none, b_X5_readLine_27, show d + 58 = d + 57 + 1 from rfl, w2, qB_some, psh_none, b_X5_readLine_33, txL_q q]
    dsimp only
    rw [List.append_assoc, List.append_assoc, List.append_assoc]
    rfl
  · have w2 : qE L xs (d + 58) nX5_write [(2, 23), (0, -59)] (qS (kdS v D ((txP b e 2500 0 0 k f).2.1 : Int) (txP b e 2500 0 0 k f).2.2 (l ++ (txP b e 2500 0 0 k f).1))) = _ := k_write (d := d + 57) h (by omega) (-59)
    rw [if_neg q, qB_some, psh_some, b_X5_readLine_12, if_pos rfl, b_X5_readLine_27, w2, qB_some, psh_none, b_X5_readLine_33, txL_n q]
    dsimp only
    rw [List.append_assoc]
theorem kd_lines (h : kB v b e D) : ∀ (n k i : Nat) (f : Int) (l : List Int), k ≤ e → f < 0 → l.length ≤ k → i ≤ k → e - k < n → ∃ i' : Int, qG L xs (d + 59) CX5_readTape 21 [(2, 23), (0, (i : Int))] [] (qS (kdS v D ((txL b e k f).2.1 : Int) (txL b e k f).2.2 (l ++ (txL b e k f).1))) = qG L xs (d + 59) CX5_readTape 46 [(2, 23), (0, i')] [] (qS (kdS v D ((txS b e n k f).2.1 : Int) (txS b e n k f).2.2 (l ++ (txS b e n k f).1)))
  | 0, k, i, f, l, hk, hf, hl, hi, hn => absurd hn (by omega)
  | n + 1, k, i, f, l, hk, hf, hl, hi, hn => by
    have he := h.2.1
    have a := txL_le (b := b) (e := e) f hk
    have sk : qE L xs (d + 59) nX5_skip [(2, 23), (2, 2009)] (qS (kdS v D ((txL b e k f).2.1 : Int) (txL b e k f).2.2 (l ++ (txL b e k f).1))) = _ := sk_9 (d := d + 54) h
    rw [b_X5_readTape_21, txS_s]
    by_cases q : (txL b e k f).2.2 < 0 ∧ (txL b e k f).2.1 < e ∧ b (txL b e k f).2.1 = 59
    · have l2 : (l ++ (txL b e k f).1).length ≤ (txL b e k f).2.1 + 1 := by
        rw [List.length_append]
        omega
      have ln := kd_line (L := L) (xs := xs) (d := d) (k := (txL b e k f).2.1 + 1) h (by omega) q.1 l2
      rw [show (((txL b e k f).2.1 + 1 : Nat) : Int) = ((txL b e k f).2.1 : Int) + 1 by omega] at ln
      obtain ⟨i', ih⟩ := kd_lines h n ((txL b e k f).2.1 + 1) (i + 1) (txL b e k f).2.2 (l ++ (txL b e k f).1) (by omega) q.1 l2 (by omega) (by omega)
      refine ⟨i', ?_⟩
      rw [if_pos (by omega), b_X5_readTape_27, sk, if_pos q, qB_some, psh_some, b_X5_readTape_33, if_neg (by omega), b_X5_readTape_36, ln, qB_some, psh_none, b_X5_readTape_40, w32_id (by omega) (by omega), show (i : Int) + 1 = ((i + 1 : Nat) : Int) by omega, ih, if_pos q]
      dsimp only
      rw [List.append_assoc]
    · refine ⟨i, ?_⟩
      rw [if_neg q]
      by_cases g : (i : Int) < 120
      · rw [if_pos g, b_X5_readTape_27, sk, if_neg q, qB_some, psh_some, b_X5_readTape_33, if_pos rfl]
      · rw [if_neg g]
/-- the tape, read: the fault; where one was found nothing but the draft has changed, else the law is new -/
def kdF (b : Nat → Int) (e : Nat) : Int := if (txS b e 130 0 (-1)).2.1 < e then (if (txS b e 130 0 (-1)).2.2 < 0 then ((txS b e 130 0 (-1)).2.1 : Int) else (txS b e 130 0 (-1)).2.2) else (txS b e 130 0 (-1)).2.2
theorem b_X5_takeDraft_4 (r1 : Nat) : qG L xs d CX5_takeDraft 4 [(2, 23), (9, 0)] [(2, .ofNat r1)] (qS v) = qG L xs d CX5_takeDraft 5 [(2, 23), (2, .ofNat r1)] [] (qS v) := qG_stk 1 _ _ _ _
theorem kd_0 : pm_up (pm_up (pm_up v 23 8 0) 23 9 (-1)) 23 6 0 = kdS v D 0 (-1) [] := by
  funext c j
  unfold pm_up kdS
  by_cases g : c = 23
  · by_cases g6 : j = 6
    · rw [if_pos ⟨g, g6⟩, if_pos g, if_neg (by omega), if_neg (by omega), if_pos g6]
      rfl
    · rw [if_neg (fun t => g6 t.2), if_pos g]
      by_cases g9 : j = 9
      · rw [if_pos ⟨g, g9⟩, if_neg (by omega), if_pos g9]
      · rw [if_neg (fun t => g9 t.2)]
        by_cases g8 : j = 8
        · rw [if_pos ⟨g, g8⟩, if_pos g8]
        · rw [if_neg (fun t => g8 t.2), if_neg g8, if_neg g9, if_neg g6]
  · rw [if_neg (fun t => g t.1), if_neg (fun t => g t.1), if_neg (fun t => g t.1), if_neg g]
    by_cases g1 : c = D
    · rw [if_pos g1]
      rfl
    · rw [if_neg g1]
def kdU (v : Nat → Nat → Int) (b : Nat → Int) (e D : Nat) : Nat → Nat → Int := pm_up (kdS v D ((txS b e 130 0 (-1)).2.1 : Int) (kdF b e) (txS b e 130 0 (-1)).1) 23 10 0
theorem kd_tape (h : kB v b e D) {D' : Nat} (h1 : v 23 1 = .ofNat D') : qE L xs (d + 60) nX5_readTape [(2, 23)] (qS v) = some (some (0, kdF b e), qS (if kdF b e < 0 then pm_up (pm_up (pm_up (kdU v b e D) 23 1 (.ofNat D)) 23 2 (.ofNat D')) 23 5 ((txS b e 130 0 (-1)).1.length : Int) else kdU v b e D)) := by
  obtain ⟨i', p⟩ := kd_lines (L := L) (xs := xs) (d := d) h 130 0 0 (-1) [] (Nat.zero_le _) (by decide) (Nat.le_refl _) (Nat.le_refl _) (by have := h.2.1; omega)
  have ln := kd_line (L := L) (xs := xs) (d := d) (k := 0) (f := -1) (l := []) h (Nat.zero_le _) (by decide) (Nat.le_refl _)
  rw [List.nil_append] at p ln
  rw [List.nil_append] at p
  have s46 : qG L xs (d + 59) CX5_readTape 46 [(2, 23), (0, i')] [] (qS (kdS v D ((txS b e 130 0 (-1)).2.1 : Int) (txS b e 130 0 (-1)).2.2 (txS b e 130 0 (-1)).1)) = qG L xs (d + 59) CX5_readTape 61 [(2, 23), (0, i')] [] (qS (kdS v D ((txS b e 130 0 (-1)).2.1 : Int) (kdF b e) (txS b e 130 0 (-1)).1)) := by
    rw [b_X5_readTape_46, kd_8, show kdS v D ((txS b e 130 0 (-1)).2.1 : Int) (txS b e 130 0 (-1)).2.2 (txS b e 130 0 (-1)).1 23 10 = (e : Int) from (kd_23 (by omega)).trans h.1]
    unfold kdF
    by_cases q : (txS b e 130 0 (-1)).2.1 < e
    · rw [if_pos (by omega), if_pos q, b_X5_readTape_57, show d + 59 = d + 58 + 1 from rfl, k_fail, qB_some, psh_none]
    · rw [if_neg (by omega), if_neg q]
  have f9 : kdU v b e D 23 9 = kdF b e := (up_ne (by omega)).trans kd_9
  have f1 : kdU v b e D 23 1 = .ofNat D' := ((up_ne (by omega)).trans (kd_23 (by omega))).trans h1
  have f2 : kdU v b e D 23 2 = .ofNat D := ((up_ne (by omega)).trans (kd_23 (by omega))).trans h.2.2.2.2
  have f6 : kdU v b e D 23 6 = ((txS b e 130 0 (-1)).1.length : Int) := (up_ne (by omega)).trans kd_6
  rw [show d + 60 = d + 59 + 1 from rfl, e_X5_readTape, b_X5_readTape_0, b_X5_readTape_5, b_X5_readTape_10, kd_0 (D := D), b_X5_readTape_15, show qE L xs (d + 59) nX5_readLine [(2, 23)] (qS (kdS v D 0 (-1) [])) = _ from ln, qB_some, psh_none, b_X5_readTape_19]
  refine Eq.trans p ?_
  rw [s46, b_X5_readTape_61]
  show qG L xs (d + 59) CX5_readTape 66 [(2, 23), (0, i')] [] (qS (kdU v b e D)) = _
  rw [b_X5_readTape_66, f9]
  by_cases q : kdF b e < 0
  · rw [if_pos q, if_pos q, b_X5_readTape_73, show d + 59 = d + 58 + 1 from rfl, e_X5_takeDraft, b_X5_takeDraft_0, f1, b_X5_takeDraft_4, b_X5_takeDraft_5, f2, b_X5_takeDraft_13, b_X5_takeDraft_18, up_ne (by omega), up_ne (by omega), f6, b_X5_takeDraft_26, qB_some, psh_none, b_X5_readTape_77, up_ne (by omega), up_ne (by omega), up_ne (by omega), f9]
  · rw [if_neg q, if_neg q, b_X5_readTape_77, f9]
end OTL
