/-! THE LAW as the reference reads it: lines; workOut -/
section OTF
variable {L : Nat} {xs : Nat → Int} {d : Nat} {v : Nat → Nat → Int} {b : Nat → Int} {e : Nat} {nm : Nat → Int}
/-- a line: whether it counts, its worth -/
def vL (b : Nat → Int) (e : Nat) (nm : Nat → Int) (k : Nat) (f : Int) : Int × Int :=
  if (txP b e 2500 0 0 k f).2.2 < 0 ∧ (txP b e 2500 0 0 k f).2.1 < e ∧ b (txP b e 2500 0 0 k f).2.1 = 63 then
    (if vP b e nm 2500 0 0 k f 0 = 0 then 0 else 1, vP b e nm 2500 0 0 ((txP b e 2500 0 0 k f).2.1 + 1) (txP b e 2500 0 0 k f).2.2 0)
  else (1, vP b e nm 2500 0 0 k f 0)
/-- whether it is given, what is given, behind a line -/
def vG (f h z g y : Int) : Int × Int := if f < 0 ∧ h ≠ 0 ∧ g = 0 then (1, z) else (g, y)
/-- what all lines from k on give -/
def vS (b : Nat → Int) (e : Nat) (nm : Nat → Int) : Nat → Nat → Int → Int → Int → Int
  | 0, _, _, _, y => y
  | n + 1, k, f, g, y =>
    if (txL b e k f).2.2 < 0 ∧ (txL b e k f).2.1 < e ∧ b (txL b e k f).2.1 = 59 then
      vS b e nm n ((txL b e k f).2.1 + 1) (txL b e k f).2.2 (vG (txL b e k f).2.2 (vL b e nm k f).1 (vL b e nm k f).2 g y).1 (vG (txL b e k f).2.2 (vL b e nm k f).1 (vL b e nm k f).2 g y).2
    else (vG (txL b e k f).2.2 (vL b e nm k f).1 (vL b e nm k f).2 g y).2
theorem txL_q {k : Nat} {f : Int} (q : (txP b e 2500 0 0 k f).2.2 < 0 ∧ (txP b e 2500 0 0 k f).2.1 < e ∧ b (txP b e 2500 0 0 k f).2.1 = 63) : txL b e k f = ((txP b e 2500 0 0 k f).1 ++ -63 :: ((txP b e 2500 0 0 ((txP b e 2500 0 0 k f).2.1 + 1) (txP b e 2500 0 0 k f).2.2).1 ++ [-59]), (txP b e 2500 0 0 ((txP b e 2500 0 0 k f).2.1 + 1) (txP b e 2500 0 0 k f).2.2).2) := if_pos q
theorem txL_n {k : Nat} {f : Int} (q : ¬ ((txP b e 2500 0 0 k f).2.2 < 0 ∧ (txP b e 2500 0 0 k f).2.1 < e ∧ b (txP b e 2500 0 0 k f).2.1 = 63)) : txL b e k f = ((txP b e 2500 0 0 k f).1 ++ [-59], (txP b e 2500 0 0 k f).2) := if_neg q
theorem txL_le {k : Nat} (f : Int) (h : k ≤ e) : k ≤ (txL b e k f).2.1 ∧ (txL b e k f).2.1 ≤ e ∧ (txL b e k f).1.length + k ≤ (txL b e k f).2.1 + 1 ∧ ((txL b e k f).2.2 = f ∨ (0 ≤ (txL b e k f).2.2 ∧ (txL b e k f).2.2 ≤ e)) := by
  have a := txP_le (b := b) (e := e) 2500 0 0 k f h
  by_cases q : (txP b e 2500 0 0 k f).2.2 < 0 ∧ (txP b e 2500 0 0 k f).2.1 < e ∧ b (txP b e 2500 0 0 k f).2.1 = 63
  · have c := txP_le (b := b) (e := e) 2500 0 0 ((txP b e 2500 0 0 k f).2.1 + 1) (txP b e 2500 0 0 k f).2.2 (by omega)
    rw [txL_q q]
    dsimp only
    rw [List.length_append, List.length_cons, List.length_append, List.length_cons, List.length_nil]
    omega
  · rw [txL_n q]
    dsimp only
    rw [List.length_append, List.length_cons, List.length_nil]
    omega
theorem txS_s (n k : Nat) (f : Int) : txS b e (n + 1) k f = if (txL b e k f).2.2 < 0 ∧ (txL b e k f).2.1 < e ∧ b (txL b e k f).2.1 = 59 then ((txL b e k f).1 ++ (txS b e n ((txL b e k f).2.1 + 1) (txL b e k f).2.2).1, (txS b e n ((txL b e k f).2.1 + 1) (txL b e k f).2.2).2) else txL b e k f := rfl
theorem vS_s (n k : Nat) (f g y : Int) : vS b e nm (n + 1) k f g y = if (txL b e k f).2.2 < 0 ∧ (txL b e k f).2.1 < e ∧ b (txL b e k f).2.1 = 59 then
      vS b e nm n ((txL b e k f).2.1 + 1) (txL b e k f).2.2 (vG (txL b e k f).2.2 (vL b e nm k f).1 (vL b e nm k f).2 g y).1 (vG (txL b e k f).2.2 (vL b e nm k f).1 (vL b e nm k f).2 g y).2
    else (vG (txL b e k f).2.2 (vL b e nm k f).1 (vL b e nm k f).2 g y).2 := rfl
theorem txS_le : ∀ (n k : Nat) (f : Int), k ≤ e → k ≤ (txS b e n k f).2.1 ∧ (txS b e n k f).2.1 ≤ e ∧ (txS b e n k f).1.length + k ≤ (txS b e n k f).2.1 + 1 ∧ ((txS b e n k f).2.2 = f ∨ (0 ≤ (txS b e n k f).2.2 ∧ (txS b e n k f).2.2 ≤ e))
  | 0, k, f, h => ⟨Nat.le_refl _, h, by show 0 + k ≤ k + 1; omega, Or.inl rfl⟩
  | n + 1, k, f, h => by
    have a := txL_le (b := b) (e := e) f h
    rw [txS_s]
    by_cases q : (txL b e k f).2.2 < 0 ∧ (txL b e k f).2.1 < e ∧ b (txL b e k f).2.1 = 59
    · have c := txS_le n ((txL b e k f).2.1 + 1) (txL b e k f).2.2 (by omega)
      rw [if_pos q]
      dsimp only
      rw [List.length_append]
      omega
    · rw [if_neg q]
      exact a
theorem rd_line (h : rdB v b e) (hn6 : ∀ i, i < 6 → v 73 i = nm i) {k : Nat} {f : Int} (hk : k ≤ e) (hf : f < 0) (D : Nat) (x1 x2 g y : Int) (u6 u7 : pm_V) : ∃ o' : Int, ((txL b e k f).2.2 < 0 → o' = 0) ∧ qG L xs (D + 45) CX12_workOut 33 [(2, 63), (0, x1), (0, x2), (0, g), (0, y), (0, 1), u6, u7] [] (qS (rdS v k f 0)) = qG L xs (D + 45) CX12_workOut 74 [(2, 63), (0, x1), (0, x2), (0, g), (0, y), (0, 1), (0, (vL b e nm k f).2), (0, (vL b e nm k f).1)] [] (qS (rdS v (txL b e k f).2.1 (txL b e k f).2.2 o')) := by
  obtain ⟨o1, p1, p2⟩ := rd_either (L := L) (xs := xs) h hn6 hk hf D
  have a := txP_le (b := b) (e := e) 2500 0 0 k f hk
  rw [b_X12_workOut_33, if_neg (by decide), b_X12_workOut_38, p2, qB_some, psh_some, b_X12_workOut_42, show D + 45 = (D + 43) + 2 from rfl, mr_takes h 63 (by decide)]
  by_cases q : (txP b e 2500 0 0 k f).2.2 < 0 ∧ (txP b e 2500 0 0 k f).2.1 < e ∧ b (txP b e 2500 0 0 k f).2.1 = 63
  · have o10 := p1 q.1
    subst o10
    obtain ⟨o2, r1, r2⟩ := rd_either (L := L) (xs := xs) (k := (txP b e 2500 0 0 k f).2.1 + 1) (f := (txP b e 2500 0 0 k f).2.2) h hn6 (by omega) q.1 D
    rw [show (((txP b e 2500 0 0 k f).2.1 + 1 : Nat) : Int) = ((txP b e 2500 0 0 k f).2.1 : Int) + 1 by omega] at r2
    have vl : vL b e nm k f = (if vP b e nm 2500 0 0 k f 0 = 0 then 0 else 1, vP b e nm 2500 0 0 ((txP b e 2500 0 0 k f).2.1 + 1) (txP b e 2500 0 0 k f).2.2 0) := if_pos q
    have st : qG L xs (D + 43 + 2) CX12_workOut 56 [(2, 63), (0, x1), (0, x2), (0, g), (0, y), (0, 1), (0, vP b e nm 2500 0 0 k f 0), (0, 1)] [] (qS (rdS v (((txP b e 2500 0 0 k f).2.1 : Int) + 1) (txP b e 2500 0 0 k f).2.2 0)) = qG L xs (D + 43 + 2) CX12_workOut 66 [(2, 63), (0, x1), (0, x2), (0, g), (0, y), (0, 1), (0, vP b e nm 2500 0 0 k f 0), (0, 1)] [(0, if vP b e nm 2500 0 0 k f 0 = 0 then 0 else 1)] (qS (rdS v (((txP b e 2500 0 0 k f).2.1 : Int) + 1) (txP b e 2500 0 0 k f).2.2 0)) := by
      rw [b_X12_workOut_56]
      by_cases z : vP b e nm 2500 0 0 k f 0 = 0
      · rw [if_pos z, if_pos z, b_X12_workOut_65]
      · rw [if_neg z, if_neg z, b_X12_workOut_61]
    rw [if_pos q, qB_some, psh_some, b_X12_workOut_53, if_neg (by decide), st, b_X12_workOut_66, show D + 43 + 2 = D + 45 from rfl, r2, qB_some, psh_some, b_X12_workOut_72, vl, txL_q q]
    exact ⟨o2, r1, rfl⟩
  · have vl : vL b e nm k f = (1, vP b e nm 2500 0 0 k f 0) := if_neg q
    rw [if_neg q, qB_some, psh_some, b_X12_workOut_53, if_pos rfl, vl, txL_n q]
    exact ⟨o1, p1, rfl⟩
theorem rd_given (D : Nat) {k f o : Int} (x1 x2 x5 z h g y : Int) (hg : g = 0 ∨ g = 1) : qG L xs D CX12_workOut 74 [(2, 63), (0, x1), (0, x2), (0, g), (0, y), (0, x5), (0, z), (0, h)] [] (qS (rdS v k f o)) = qG L xs D CX12_workOut 96 [(2, 63), (0, x1), (0, x2), (0, (vG f h z g y).1), (0, (vG f h z g y).2), (0, x5), (0, z), (0, h)] [] (qS (rdS v k f o)) := by
  unfold vG
  rw [b_X12_workOut_74, rd_18]
  by_cases q1 : f < 0
  · rw [if_pos q1, b_X12_workOut_81]
    by_cases q2 : h = 0
    · rw [if_pos q2, if_neg (fun t => t.2.1 q2)]
    · rw [if_neg q2, b_X12_workOut_86]
      by_cases q3 : g = 0
      · rw [if_pos q3, if_pos ⟨q1, q2, q3⟩, b_X12_workOut_90]
      · rw [if_neg q3, if_neg (fun t => q3 t.2.2)]
  · rw [if_neg q1, if_neg (fun t => q1 t.1)]
theorem vG_b (f h z g y : Int) (hg : g = 0 ∨ g = 1) : (vG f h z g y).1 = 0 ∨ (vG f h z g y).1 = 1 := by
  unfold vG
  split
  · exact Or.inr rfl
  · exact hg
theorem rd_lines (h : rdB v b e) (hn6 : ∀ i, i < 6 → v 73 i = nm i) (D : Nat) (x1 x2 : Int) : ∀ (n k : Nat) (f g y : Int) (u6 u7 : pm_V), k ≤ e → e - k < n → f < 0 → (g = 0 ∨ g = 1) → ∃ (o' g' : Int) (w6 w7 : pm_V), qG L xs (D + 45) CX12_workOut 33 [(2, 63), (0, x1), (0, x2), (0, g), (0, y), (0, 1), u6, u7] [] (qS (rdS v k f 0)) = qG L xs (D + 45) CX12_workOut 107 [(2, 63), (0, x1), (0, x2), (0, g'), (0, vS b e nm n k f g y), (0, 0), w6, w7] [] (qS (rdS v (txS b e n k f).2.1 (txS b e n k f).2.2 o'))
  | 0, k, f, g, y, u6, u7, hk, hn, hf, hg => absurd hn (by omega)
  | n + 1, k, f, g, y, u6, u7, hk, hn, hf, hg => by
    obtain ⟨o1, p1, p2⟩ := rd_line (L := L) (xs := xs) h hn6 hk hf D x1 x2 g y u6 u7
    have a := txL_le (b := b) (e := e) f hk
    rw [p2, rd_given _ _ _ _ _ _ _ _ hg, b_X12_workOut_96, show D + 45 = (D + 43) + 2 from rfl, mr_takes h 59 (by decide), txS_s, vS_s]
    by_cases q : (txL b e k f).2.2 < 0 ∧ (txL b e k f).2.1 < e ∧ b (txL b e k f).2.1 = 59
    · have o10 := p1 q.1
      subst o10
      obtain ⟨o2, g2, w6, w7, r⟩ := rd_lines h hn6 D x1 x2 n ((txL b e k f).2.1 + 1) (txL b e k f).2.2 _ (vG (txL b e k f).2.2 (vL b e nm k f).1 (vL b e nm k f).2 g y).2 (0, (vL b e nm k f).2) (0, (vL b e nm k f).1) (by omega) (by omega) q.1 (vG_b (txL b e k f).2.2 (vL b e nm k f).1 (vL b e nm k f).2 g y hg)
      rw [show (((txL b e k f).2.1 + 1 : Nat) : Int) = ((txL b e k f).2.1 : Int) + 1 by omega] at r
      rw [if_pos q, if_pos q, if_pos q, qB_some, psh_some, b_X12_workOut_102]
      exact ⟨o2, g2, w6, w7, r⟩
    · rw [if_neg q, if_neg q, if_neg q, qB_some, psh_some, b_X12_workOut_102, b_X12_workOut_33, if_pos rfl]
      exact ⟨_, _, _, _, rfl⟩
/-- where it reads from, how far -/
def rdT (v : Nat → Nat → Int) (x1 x2 : Int) : Nat → Nat → Int := pm_up (pm_up v 63 15 x1) 63 17 x2
theorem rdT_0 (x1 x2 : Int) : pm_up (pm_up (pm_up (pm_up (pm_up v 63 15 x1) 63 16 0) 63 17 x2) 63 18 (-1)) 63 19 0 = rdS (rdT v x1 x2) 0 (-1) 0 := by
  funext c j
  unfold rdS rdT pm_up
  by_cases g : c = 63
  · subst g
    by_cases g16 : j = 16
    · subst g16; rfl
    · by_cases g18 : j = 18
      · subst g18; rfl
      · by_cases g19 : j = 19
        · subst g19; rfl
        · simp only [g16, g18, g19, and_false, if_false, if_true]
  · simp only [g, false_and, if_false]
theorem mr_workOut {x1 : Int} (hb : rdB (rdT v x1 e) b e) (hn : ∀ i, i < 6 → v 73 i = nm i) (D : Nat) : ∃ o' : Int, qE L xs (D + 46) nX12_workOut [(2, 63), (0, x1), (0, (e : Int))] (qS v) = some (some (0, if (txS b e 130 0 (-1)).2.2 < 0 ∧ (txS b e 130 0 (-1)).2.1 < e then 0 else vS b e nm 130 0 (-1) 0 0), qS (rdS (rdT v x1 e) (txS b e 130 0 (-1)).2.1 (if (txS b e 130 0 (-1)).2.2 < 0 ∧ (txS b e 130 0 (-1)).2.1 < e then ((txS b e 130 0 (-1)).2.1 : Int) else (txS b e 130 0 (-1)).2.2) o')) := by
  have he := hb.2.1
  have h17 := hb.1
  have hn6 : ∀ i, i < 6 → rdT v x1 e 73 i = nm i := fun i hi => by
    rw [← hn i hi]
    unfold rdT
    rw [up_ne (by omega), up_ne (by omega)]
  obtain ⟨o', g', w6, w7, r⟩ := rd_lines (L := L) (xs := xs) hb hn6 D x1 e 130 0 (-1) 0 0 (9, 0) (9, 0) (by omega) (by omega) (by decide) (Or.inl rfl)
  refine ⟨o', ?_⟩
  rw [show D + 46 = (D + 45) + 1 from rfl, e_X12_workOut, b_X12_workOut_0, b_X12_workOut_5, b_X12_workOut_10, b_X12_workOut_15, b_X12_workOut_20, rdT_0, b_X12_workOut_25]
  refine Eq.trans r ?_
  rw [b_X12_workOut_107, rd_18]
  by_cases q1 : (txS b e 130 0 (-1)).2.2 < 0
  · rw [if_pos q1, b_X12_workOut_114, rd_16, rd_ne (by omega), h17]
    by_cases q2 : (txS b e 130 0 (-1)).2.1 < e
    · rw [if_pos (by omega), if_pos ⟨q1, q2⟩, if_pos ⟨q1, q2⟩, b_X12_workOut_125, show D + 45 = (D + 44) + 1 from rfl, mr_wrong, if_pos q1, qB_some, psh_some, b_X12_workOut_129]
    · rw [if_neg (by omega), if_neg (fun t => q2 t.2), if_neg (fun t => q2 t.2), b_X12_workOut_130]
  · rw [if_neg q1, if_neg (fun t => q1 t.1), if_neg (fun t => q1 t.1), b_X12_workOut_130]
end OTF
