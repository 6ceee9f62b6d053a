/-! JOINED: 89zf.optf, 89zg.optg, 89zh.opth -/
section
/-! THE LAW as the reference reads it: lines; workOut -/
section OTF
variable {L : Nat} {xs : Nat → Int} {d : Nat} {v : Nat → Nat → Int} {b : Nat → Int} {e : Nat} {nm : Nat → Int}
/-- a line: whether it counts, its worth -/
def vL (b : Nat → Int) (e : Nat) (nm : Nat → Int) (k : Nat) (f : Int) : Int × Int :=
  if (txP b e 2500 0 0 k f).2.2 < 0 ∧ (txP b e 2500 0 0 k f).2.1 < e ∧ b (txP b e 2500 0 0 k f).2.1 = 63 then
    (if vP b e nm 2500 0 0 k f 0 = 0 then 0 else 1, vP b e nm 2500 0 0 ((txP b e 2500 0 0 k f).2.1 + 1) (txP b e 2500 0 0 k f).2.2 0)
  else (1, vP b e nm 2500 0 0 k f 0)
/-- whether it is given, what is given, behind a line -/
def vG (f h z g y : Int) : Int × Int := if f < 0 ∧ h ≠ 0 ∧ g = 0 then (1, z) else (g, y)
/-- what all lines from k on give -/
def vS (b : Nat → Int) (e : Nat) (nm : Nat → Int) : Nat → Nat → Int → Int → Int → Int
  | 0, _, _, _, y => y
  | n + 1, k, f, g, y =>
    if (txL b e k f).2.2 < 0 ∧ (txL b e k f).2.1 < e ∧ b (txL b e k f).2.1 = 59 then
      vS b e nm n ((txL b e k f).2.1 + 1) (txL b e k f).2.2 (vG (txL b e k f).2.2 (vL b e nm k f).1 (vL b e nm k f).2 g y).1 (vG (txL b e k f).2.2 (vL b e nm k f).1 (vL b e nm k f).2 g y).2
    else (vG (txL b e k f).2.2 (vL b e nm k f).1 (vL b e nm k f).2 g y).2
theorem txL_q {k : Nat} {f : Int} (q : (txP b e 2500 0 0 k f).2.2 < 0 ∧ (txP b e 2500 0 0 k f).2.1 < e ∧ b (txP b e 2500 0 0 k f).2.1 = 63) : txL b e k f = ((txP b e 2500 0 0 k f).1 ++ -63 :: ((txP b e 2500 0 0 ((txP b e 2500 0 0 k f).2.1 + 1) (txP b e 2500 0 0 k f).2.2).1 ++ [-59]), (txP b e 2500 0 0 ((txP b e 2500 0 0 k f).2.1 + 1) (txP b e 2500 0 0 k f).2.2).2) := if_pos q
theorem txL_n {k : Nat} {f : Int} (q : ¬ ((txP b e 2500 0 0 k f).2.2 < 0 ∧ (txP b e 2500 0 0 k f).2.1 < e ∧ b (txP b e 2500 0 0 k f).2.1 = 63)) : txL b e k f = ((txP b e 2500 0 0 k f).1 ++ [-59], (txP b e 2500 0 0 k f).2) := if_neg q
theorem txL_le {k : Nat} (f : Int) (h : k ≤ e) : k ≤ (txL b e k f).2.1 ∧ (txL b e k f).2.1 ≤ e ∧ (txL b e k f).1.length + k ≤ (txL b e k f).2.1 + 1 ∧ ((txL b e k f).2.2 = f ∨ (0 ≤ (txL b e k f).2.2 ∧ (txL b e k f).2.2 ≤ e)) := by
  have a := txP_le (b := b) (e := e) 2500 0 0 k f h
  by_cases q : (txP b e 2500 0 0 k f).2.2 < 0 ∧ (txP b e 2500 0 0 k f).2.1 < e ∧ b (txP b e 2500 0 0 k f).2.1 = 63
  · have c := txP_le (b := b) (e := e) 2500 0 0 ((txP b e 2500 0 0 k f).2.1 + 1) (txP b e 2500 0 0 k f).2.2 (by omega)
    rw [txL_q q]
    dsimp only
    rw [List.length_append, List.length_cons, List.length_append, List.length_cons, List.length_nil]
    omega
  · rw [txL_n q]
    dsimp only
    rw [List.length_append, List.length_cons, List.length_nil]
    omega
theorem txS_s (n k : Nat) (f : Int) : txS b e (n + 1) k f = if (txL b e k f).2.2 < 0 ∧ (txL b e k f).2.1 < e ∧ b (txL b e k f).2.1 = 59 then ((txL b e k f).1 ++ (txS b e n ((txL b e k f).2.1 + 1) (txL b e k f).2.2).1, (txS b e n ((txL b e k f).2.1 + 1) (txL b e k f).2.2).2) else txL b e k f := rfl
theorem vS_s (n k : Nat) (f g y : Int) : vS b e nm (n + 1) k f g y = if (txL b e k f).2.2 < 0 ∧ (txL b e k f).2.1 < e ∧ b (txL b e k f).2.1 = 59 then
      vS b e nm n ((txL b e k f).2.1 + 1) (txL b e k f).2.2 (vG (txL b e k f).2.2 (vL b e nm k f).1 (vL b e nm k f).2 g y).1 (vG (txL b e k f).2.2 (vL b e nm k f).1 (vL b e nm k f).2 g y).2
    else (vG (txL b e k f).2.2 (vL b e nm k f).1 (vL b e nm k f).2 g y).2 := rfl
theorem txS_le : ∀ (n k : Nat) (f : Int), k ≤ e → k ≤ (txS b e n k f).2.1 ∧ (txS b e n k f).2.1 ≤ e ∧ (txS b e n k f).1.length + k ≤ (txS b e n k f).2.1 + 1 ∧ ((txS b e n k f).2.2 = f ∨ (0 ≤ (txS b e n k f).2.2 ∧ (txS b e n k f).2.2 ≤ e))
  | 0, k, f, h => ⟨Nat.le_refl _, h, by show 0 + k ≤ k + 1; omega, Or.inl rfl⟩
  | n + 1, k, f, h => by
    have a := txL_le (b := b) (e := e) f h
    rw [txS_s]
    by_cases q : (txL b e k f).2.2 < 0 ∧ (txL b e k f).2.1 < e ∧ b (txL b e k f).2.1 = 59
    · have c := txS_le n ((txL b e k f).2.1 + 1) (txL b e k f).2.2 (by omega)
      rw [if_pos q]
      dsimp only
      rw [List.length_append]
      omega
    · rw [if_neg q]
      exact a
theorem rd_line (h : rdB v b e) (hn6 : ∀ i, i < 6 → v 73 i = nm i) {k : Nat} {f : Int} (hk : k ≤ e) (hf : f < 0) (D : Nat) (x1 x2 g y : Int) (u6 u7 : pm_V) : ∃ o' : Int, ((txL b e k f).2.2 < 0 → o' = 0) ∧ qG L xs (D + 45) CX12_workOut 33 [(2, 63), (0, x1), (0, x2), (0, g), (0, y), (0, 1), u6, u7] [] (qS (rdS v k f 0)) = qG L xs (D + 45) CX12_workOut 74 [(2, 63), (0, x1), (0, x2), (0, g), (0, y), (0, 1), (0, (vL b e nm k f).2), (0, (vL b e nm k f).1)] [] (qS (rdS v (txL b e k f).2.1 (txL b e k f).2.2 o')) := by
  obtain ⟨o1, p1, p2⟩ := rd_either (L := L) (xs := xs) h hn6 hk hf D
  have a := txP_le (b := b) (e := e) 2500 0 0 k f hk
  rw [b_X12_workOut_33, if_neg (by decide), b_X12_workOut_38, p2, qB_some, psh_some, b_X12_workOut_42, show D + 45 = (D + 43) + 2 from rfl, mr_takes h 63 (by decide)]
  by_cases q : (txP b e 2500 0 0 k f).2.2 < 0 ∧ (txP b e 2500 0 0 k f).2.1 < e ∧ b (txP b e 2500 0 0 k f).2.1 = 63
  · have o10 := p1 q.1
    subst o10
    obtain ⟨o2, r1, r2⟩ := rd_either (L := L) (xs := xs) (k := (txP b e 2500 0 0 k f).2.1 + 1) (f := (txP b e 2500 0 0 k f).2.2) h hn6 (by omega) q.1 D
    rw [show (((txP b e 2500 0 0 k f).2.1 + 1 : Nat) : Int) = ((txP b e 2500 0 0 k f).2.1 : Int) + 1 by omega] at r2
    have vl : vL b e nm k f = (if vP b e nm 2500 0 0 k f 0 = 0 then 0 else 1, vP b e nm 2500 0 0 ((txP b e 2500 0 0 k f).2.1 + 1) (txP b e 2500 0 0 k f).2.2 0) := if_pos q
    have st : qG L xs (D + 43 + 2) CX12_workOut 56 [(2, 63), (0, x1), (0, x2), (0, g), (0, y), (0, 1), (0, vP b e nm 2500 0 0 k f 0), (0, 1)] [] (qS (rdS v (((txP b e 2500 0 0 k f).2.1 : Int) + 1) (txP b e 2500 0 0 k f).2.2 0)) = qG L xs (D + 43 + 2) CX12_workOut 66 [(2, 63), (0, x1), (0, x2), (0, g), (0, y), (0, 1), (0, vP b e nm 2500 0 0 k f 0), (0, 1)] [(0, if vP b e nm 2500 0 0 k f 0 = 0 then 0 else 1)] (qS (rdS v (((txP b e 2500 0 0 k f).2.1 : Int) + 1) (txP b e 2500 0 0 k f).2.2 0)) := by
      rw [b_X12_workOut_56]
      by_cases z : vP b e nm 2500 0 0 k f 0 = 0
      · rw [if_pos z, if_pos z, b_X12_workOut_65]
      · rw [if_neg z, if_neg z, b_X12_workOut_61]
    rw [if_pos q, qB_some, psh_some, b_X12_workOut_53, if_neg (by decide), st, b_X12_workOut_66, show D + 43 + 2 = D + 45 from rfl, r2, qB_some, psh_some, b_X12_workOut_72, vl, txL_q q]
    exact ⟨o2, r1, rfl⟩
  · have vl : vL b e nm k f = (1, vP b e nm 2500 0 0 k f 0) := if_neg q
    rw [if_neg q, qB_some, psh_some, b_X12_workOut_53, if_pos rfl, vl, txL_n q]
    exact ⟨o1, p1, rfl⟩
theorem rd_given (D : Nat) {k f o : Int} (x1 x2 x5 z h g y : Int) (hg : g = 0 ∨ g = 1) : qG L xs D CX12_workOut 74 [(2, 63), (0, x1), (0, x2), (0, g), (0, y), (0, x5), (0, z), (0, h)] [] (qS (rdS v k f o)) = qG L xs D CX12_workOut 96 [(2, 63), (0, x1), (0, x2), (0, (vG f h z g y).1), (0, (vG f h z g y).2), (0, x5), (0, z), (0, h)] [] (qS (rdS v k f o)) := by
  unfold vG
  rw [b_X12_workOut_74, rd_18]
  by_cases q1 : f < 0
  · rw [if_pos q1, b_X12_workOut_81]
    by_cases q2 : h = 0
    · rw [if_pos q2, if_neg (fun t => t.2.1 q2)]
    · rw [if_neg q2, b_X12_workOut_86]
      by_cases q3 : g = 0
      · rw [if_pos q3, if_pos ⟨q1, q2, q3⟩, b_X12_workOut_90]
      · rw [if_neg q3, if_neg (fun t => q3 t.2.2)]
  · rw [if_neg q1, if_neg (fun t => q1 t.1)]
theorem vG_b (f h z g y : Int) (hg : g = 0 ∨ g = 1) : (vG f h z g y).1 = 0 ∨ (vG f h z g y).1 = 1 := by
  unfold vG
  split
  · exact Or.inr rfl
  · exact hg
theorem rd_lines (h : rdB v b e) (hn6 : ∀ i, i < 6 → v 73 i = nm i) (D : Nat) (x1 x2 : Int) : ∀ (n k : Nat) (f g y : Int) (u6 u7 : pm_V), k ≤ e → e - k < n → f < 0 → (g = 0 ∨ g = 1) → ∃ (o' g' : Int) (w6 w7 : pm_V), qG L xs (D + 45) CX12_workOut 33 [(2, 63), (0, x1), (0, x2), (0, g), (0, y), (0, 1), u6, u7] [] (qS (rdS v k f 0)) = qG L xs (D + 45) CX12_workOut 107 [(2, 63), (0, x1), (0, x2), (0, g'), (0, vS b e nm n k f g y), (0, 0), w6, w7] [] (qS (rdS v (txS b e n k f).2.1 (txS b e n k f).2.2 o'))
  | 0, k, f, g, y, u6, u7, hk, hn, hf, hg => absurd hn (by omega)
  | n + 1, k, f, g, y, u6, u7, hk, hn, hf, hg => by
    obtain ⟨o1, p1, p2⟩ := rd_line (L := L) (xs := xs) h hn6 hk hf D x1 x2 g y u6 u7
    have a := txL_le (b := b) (e := e) f hk
    rw [p2, rd_given _ _ _ _ _ _ _ _ hg, b_X12_workOut_96, show D + 45 = (D + 43) + 2 from rfl, mr_takes h 59 (by decide), txS_s, vS_s]
    by_cases q : (txL b e k f).2.2 < 0 ∧ (txL b e k f).2.1 < e ∧ b (txL b e k f).2.1 = 59
    · have o10 := p1 q.1
      subst o10
      obtain ⟨o2, g2, w6, w7, r⟩ := rd_lines h hn6 D x1 x2 n ((txL b e k f).2.1 + 1) (txL b e k f).2.2 _ (vG (txL b e k f).2.2 (vL b e nm k f).1 (vL b e nm k f).2 g y).2 (0, (vL b e nm k f).2) (0, (vL b e nm k f).1) (by omega) (by omega) q.1 (vG_b (txL b e k f).2.2 (vL b e nm k f).1 (vL b e nm k f).2 g y hg)
      rw [show (((txL b e k f).2.1 + 1 : Nat) : Int) = ((txL b e k f).2.1 : Int) + 1 by omega] at r
      rw [if_pos q, if_pos q, if_pos q, qB_some, psh_some, b_X12_workOut_102]
      exact ⟨o2, g2, w6, w7, r⟩
    · rw [if_neg q, if_neg q, if_neg q, qB_some, psh_some, b_X12_workOut_102, b_X12_workOut_33, if_pos rfl]
      exact ⟨_, _, _, _, rfl⟩
/-- where it reads from, how far -/
def rdT (v : Nat → Nat → Int) (x1 x2 : Int) : Nat → Nat → Int := pm_up (pm_up v 63 15 x1) 63 17 x2
theorem rdT_0 (x1 x2 : Int) : pm_up (pm_up (pm_up (pm_up (pm_up v 63 15 x1) 63 16 0) 63 17 x2) 63 18 (-1)) 63 19 0 = rdS (rdT v x1 x2) 0 (-1) 0 := by
  funext c j
  unfold rdS rdT pm_up
  by_cases g : c = 63
  · subst g
    by_cases g16 : j = 16
    · subst g16; rfl
    · by_cases g18 : j = 18
      · subst g18; rfl
      · by_cases g19 : j = 19
        · subst g19; rfl
        · simp only [g16, g18, g19, and_false, if_false, if_true]
  · simp only [g, false_and, if_false]
theorem mr_workOut {x1 : Int} (hb : rdB (rdT v x1 e) b e) (hn : ∀ i, i < 6 → v 73 i = nm i) (D : Nat) : ∃ o' : Int, qE L xs (D + 46) nX12_workOut [(2, 63), (0, x1), (0, (e : Int))] (qS v) = some (some (0, if (txS b e 130 0 (-1)).2.2 < 0 ∧ (txS b e 130 0 (-1)).2.1 < e then 0 else vS b e nm 130 0 (-1) 0 0), qS (rdS (rdT v x1 e) (txS b e 130 0 (-1)).2.1 (if (txS b e 130 0 (-1)).2.2 < 0 ∧ (txS b e 130 0 (-1)).2.1 < e then ((txS b e 130 0 (-1)).2.1 : Int) else (txS b e 130 0 (-1)).2.2) o')) := by
  have he := hb.2.1
  have h17 := hb.1
  have hn6 : ∀ i, i < 6 → rdT v x1 e 73 i = nm i := fun i hi => by
    rw [← hn i hi]
    unfold rdT
    rw [up_ne (by omega), up_ne (by omega)]
  obtain ⟨o', g', w6, w7, r⟩ := rd_lines (L := L) (xs := xs) hb hn6 D x1 e 130 0 (-1) 0 0 (9, 0) (9, 0) (by omega) (by omega) (by decide) (Or.inl rfl)
  refine ⟨o', ?_⟩
  rw [show D + 46 = (D + 45) + 1 from rfl, e_X12_workOut, b_X12_workOut_0, b_X12_workOut_5, b_X12_workOut_10, b_X12_workOut_15, b_X12_workOut_20, rdT_0, b_X12_workOut_25]
  refine Eq.trans r ?_
  rw [b_X12_workOut_107, rd_18]
  by_cases q1 : (txS b e 130 0 (-1)).2.2 < 0
  · rw [if_pos q1, b_X12_workOut_114, rd_16, rd_ne (by omega), h17]
    by_cases q2 : (txS b e 130 0 (-1)).2.1 < e
    · rw [if_pos (by omega), if_pos ⟨q1, q2⟩, if_pos ⟨q1, q2⟩, b_X12_workOut_125, show D + 45 = (D + 44) + 1 from rfl, mr_wrong, if_pos q1, qB_some, psh_some, b_X12_workOut_129]
    · rw [if_neg (by omega), if_neg (fun t => q2 t.2), if_neg (fun t => q2 t.2), b_X12_workOut_130]
  · rw [if_neg q1, if_neg (fun t => q1 t.1), if_neg (fun t => q1 t.1), b_X12_workOut_130]
end OTF
end
section
/-! THE LAW, plainly: the class's code, worked out, is what the lines give -/
section OTG
variable {b : Nat → Int} {e : Nat} {nm : Nat → Int}
/-- a sign that stands within a line -/
def plS (s : Int) : Prop := -126 ≤ s ∧ s < 10000 ∧ s ≠ -59 ∧ s ≠ -63
/-- the code, worked out: signs, what is stacked, whether a line is passed over -/
def cwk (nm : Nat → Int) : List Int → List Int → Int → Int
  | [], _, _ => 0
  | s :: l, st, p => if s = -59 then (if p = 0 then st.headD 0 else cwk nm l st 0) else if s = -63 then cwk nm l st.tail (if st.headD 0 = 0 then 1 else 0) else if p = 0 then cwk nm l (exS nm s st) p else cwk nm l st p
theorem txP_pl : ∀ (n m o k : Nat) (f : Int), ∀ s, s ∈ (txP b e n m o k f).1 → plS s
  | 0, _, _, _, _, s, h => absurd h (by exact List.not_mem_nil)
  | n + 1, m, o, k, f, s, h => by
    unfold txP at h
    by_cases g : m < 5
    · rw [if_pos g] at h
      rcases List.mem_append.mp h with h1 | h1
      · exact txP_pl n _ _ _ _ s h1
      · exact txP_pl n _ _ _ _ s h1
    · rw [if_neg g] at h
      by_cases g5 : m = 5
      · rw [if_pos g5] at h
        by_cases hf : f < 0
        · rw [if_pos hf] at h
          by_cases hk : k < e
          · rw [if_pos hk] at h
            by_cases q1 : 0 ≤ nmI (b k)
            · have := nmI_r (b k)
              rw [if_pos q1] at h
              have h2 := List.mem_singleton.mp h
              unfold plS
              omega
            · rw [if_neg q1] at h
              by_cases q2 : dgt (b k)
              · have := rd_v (b := b) (e := e) 4 0 k (by omega) (by decide) (by omega)
                rw [if_pos q2] at h
                have h2 := List.mem_singleton.mp h
                unfold plS
                omega
              · rw [if_neg q2] at h
                by_cases q3 : o < 6 ∧ b k = 40
                · rw [if_pos q3] at h
                  by_cases q4 : (txP b e n 0 (o + 1) (k + 1) f).2.2 < 0 ∧ (txP b e n 0 (o + 1) (k + 1) f).2.1 < e ∧ b (txP b e n 0 (o + 1) (k + 1) f).2.1 = 41
                  · rw [if_pos q4] at h
                    exact txP_pl n _ _ _ _ s h
                  · rw [if_neg q4] at h
                    exact txP_pl n _ _ _ _ s h
                · rw [if_neg q3] at h
                  by_cases q4 : o < 6 ∧ (b k = 33 ∨ b k = 45)
                  · rw [if_pos q4] at h
                    rcases List.mem_append.mp h with h1 | h1
                    · exact txP_pl n _ _ _ _ s h1
                    · have h2 := List.mem_singleton.mp h1
                      unfold plS
                      by_cases q5 : b k = 45
                      · rw [if_pos q5] at h2
                        omega
                      · rw [if_neg q5] at h2
                        omega
                  · rw [if_neg q4] at h
                    exact absurd h (by exact List.not_mem_nil)
          · rw [if_neg hk] at h
            exact absurd h (by exact List.not_mem_nil)
        · rw [if_neg hf] at h
          exact absurd h (by exact List.not_mem_nil)
      · rw [if_neg g5] at h
        by_cases q : f < 0 ∧ k < e ∧ sgn (m - 10) (b k)
        · rw [if_pos q] at h
          have sg : plS (-(b k)) := by
            have := q.2.2
            unfold sgn at this
            unfold plS
            omega
          by_cases q2 : m = 12
          · rw [if_pos q2] at h
            rcases List.mem_append.mp h with h1 | h1
            · exact txP_pl n _ _ _ _ s h1
            · rw [List.mem_singleton.mp h1]
              exact sg
          · rw [if_neg q2] at h
            rcases List.mem_append.mp h with h1 | h1
            · exact txP_pl n _ _ _ _ s h1
            · rcases List.mem_cons.mp h1 with h2 | h2
              · rw [h2]
                exact sg
              · exact txP_pl n _ _ _ _ s h2
        · rw [if_neg q] at h
          exact absurd h (by exact List.not_mem_nil)
theorem cwk_c0 {s : Int} (h : plS s) (l st : List Int) : cwk nm (s :: l) st 0 = cwk nm l (exS nm s st) 0 := by
  unfold plS at h
  rw [show cwk nm (s :: l) st 0 = if s = -59 then (if (0 : Int) = 0 then st.headD 0 else cwk nm l st 0) else if s = -63 then cwk nm l st.tail (if st.headD 0 = 0 then 1 else 0) else if (0 : Int) = 0 then cwk nm l (exS nm s st) 0 else cwk nm l st 0 from rfl, if_neg (by omega), if_neg (by omega), if_pos rfl]
theorem cwk_c1 {s : Int} (h : plS s) (l st : List Int) : cwk nm (s :: l) st 1 = cwk nm l st 1 := by
  unfold plS at h
  rw [show cwk nm (s :: l) st 1 = if s = -59 then (if (1 : Int) = 0 then st.headD 0 else cwk nm l st 0) else if s = -63 then cwk nm l st.tail (if st.headD 0 = 0 then 1 else 0) else if (1 : Int) = 0 then cwk nm l (exS nm s st) 1 else cwk nm l st 1 from rfl, if_neg (by omega), if_neg (by omega), if_neg (by decide)]
theorem cwk_if (l st : List Int) (p : Int) : cwk nm (-63 :: l) st p = cwk nm l st.tail (if st.headD 0 = 0 then 1 else 0) := (if_neg (by decide)).trans (if_pos rfl)
theorem cwk_e0 (l st : List Int) : cwk nm (-59 :: l) st 0 = st.headD 0 := (if_pos rfl).trans (if_pos rfl)
theorem cwk_e1 (l st : List Int) : cwk nm (-59 :: l) st 1 = cwk nm l st 0 := (if_pos rfl).trans (if_neg (by decide))
theorem cwk_a0 : ∀ (l r st : List Int), (∀ s, s ∈ l → plS s) → cwk nm (l ++ r) st 0 = cwk nm r (exL nm l st) 0
  | [], r, st, h => rfl
  | s :: l, r, st, h => by
    show cwk nm (s :: (l ++ r)) st 0 = _
    rw [cwk_c0 (h s List.mem_cons_self), cwk_a0 l r _ (fun z hz => h z (List.mem_cons_of_mem s hz)), exL_cons]
theorem cwk_a1 : ∀ (l r st : List Int), (∀ s, s ∈ l → plS s) → cwk nm (l ++ r) st 1 = cwk nm r st 1
  | [], r, st, h => rfl
  | s :: l, r, st, h => by
    show cwk nm (s :: (l ++ r)) st 1 = _
    rw [cwk_c1 (h s List.mem_cons_self), cwk_a1 l r _ (fun z hz => h z (List.mem_cons_of_mem s hz))]
theorem exP0 (he : e ≤ 120) {k : Nat} {f : Int} (st : List Int) (hk : k ≤ e) (hf : (txP b e 2500 0 0 k f).2.2 < 0) : exL nm (txP b e 2500 0 0 k f).1 st = vP b e nm 2500 0 0 k f 0 :: st := by
  have := exP (nm := nm) he 2500 0 0 k f 0 st hk (by omega) (by have : rkT 0 = 12 := rfl; rw [this]; omega) hf
  rw [if_neg (by omega)] at this
  exact this
theorem cwk_line (he : e ≤ 120) {k : Nat} {f : Int} (r st : List Int) (hk : k ≤ e) (hf : (txL b e k f).2.2 < 0) : cwk nm ((txL b e k f).1 ++ r) st 0 = if (vL b e nm k f).1 = 0 then cwk nm r st 0 else (vL b e nm k f).2 := by
  have a := txP_le (b := b) (e := e) 2500 0 0 k f hk
  by_cases q : (txP b e 2500 0 0 k f).2.2 < 0 ∧ (txP b e 2500 0 0 k f).2.1 < e ∧ b (txP b e 2500 0 0 k f).2.1 = 63
  · have vl : vL b e nm k f = (if vP b e nm 2500 0 0 k f 0 = 0 then 0 else 1, vP b e nm 2500 0 0 ((txP b e 2500 0 0 k f).2.1 + 1) (txP b e 2500 0 0 k f).2.2 0) := if_pos q
    rw [txL_q q] at hf ⊢
    rw [vl]
    dsimp only at hf ⊢
    rw [List.append_assoc, cwk_a0 _ _ _ (txP_pl _ _ _ _ _), exP0 he st hk q.1]
    show cwk nm (-63 :: (((txP b e 2500 0 0 ((txP b e 2500 0 0 k f).2.1 + 1) (txP b e 2500 0 0 k f).2.2).1 ++ [-59]) ++ r)) _ 0 = _
    rw [cwk_if, List.append_assoc]
    show cwk nm _ st (if vP b e nm 2500 0 0 k f 0 = 0 then 1 else 0) = _
    by_cases z : vP b e nm 2500 0 0 k f 0 = 0
    · rw [if_pos z, if_pos z, if_pos rfl, cwk_a1 _ _ _ (txP_pl _ _ _ _ _)]
      exact cwk_e1 r st
    · rw [if_neg z, if_neg z, if_neg (by decide), cwk_a0 _ _ _ (txP_pl _ _ _ _ _), exP0 he st (by omega) hf]
      exact cwk_e0 r _
  · have vl : vL b e nm k f = (1, vP b e nm 2500 0 0 k f 0) := if_neg q
    rw [txL_n q] at hf ⊢
    rw [vl]
    dsimp only at hf ⊢
    rw [List.append_assoc, cwk_a0 _ _ _ (txP_pl _ _ _ _ _), exP0 he st hk hf, if_neg (by decide)]
    exact cwk_e0 r _
theorem vS_1 (n : Nat) : ∀ (k : Nat) (f y : Int), vS b e nm n k f 1 y = y := by
  induction n with
  | zero => intro k f y; rfl
  | succ n ih =>
    intro k f y
    have g : ∀ f h z, vG f h z 1 y = (1, y) := fun f h z => if_neg (by omega)
    rw [vS_s, g]
    split
    · exact ih _ _ _
    · rfl
theorem cwk_all (he : e ≤ 120) : ∀ (n k : Nat) (f : Int) (st : List Int), k ≤ e → (txS b e n k f).2.2 < 0 → cwk nm (txS b e n k f).1 st 0 = vS b e nm n k f 0 0
  | 0, k, f, st, hk, hf => rfl
  | n + 1, k, f, st, hk, hf => by
    have a := txL_le (b := b) (e := e) f hk
    rw [txS_s] at hf ⊢
    rw [vS_s]
    by_cases q : (txL b e k f).2.2 < 0 ∧ (txL b e k f).2.1 < e ∧ b (txL b e k f).2.1 = 59
    · rw [if_pos q] at hf ⊢
      rw [if_pos q]
      dsimp only at hf ⊢
      rw [cwk_line he _ st hk q.1]
      by_cases z : (vL b e nm k f).1 = 0
      · have g : vG (txL b e k f).2.2 (vL b e nm k f).1 (vL b e nm k f).2 0 0 = (0, 0) := if_neg (fun t => t.2.1 z)
        rw [if_pos z, g, cwk_all he n _ _ st (by omega) hf]
      · have g : vG (txL b e k f).2.2 (vL b e nm k f).1 (vL b e nm k f).2 0 0 = (1, (vL b e nm k f).2) := if_pos ⟨q.1, z, rfl⟩
        rw [if_neg z, g, vS_1]
    · rw [if_neg q] at hf ⊢
      rw [if_neg q]
      have := cwk_line (nm := nm) he [] st hk hf
      rw [List.append_nil] at this
      rw [this]
      by_cases z : (vL b e nm k f).1 = 0
      · have g : vG (txL b e k f).2.2 (vL b e nm k f).1 (vL b e nm k f).2 0 0 = (0, 0) := if_neg (fun t => t.2.1 z)
        rw [if_pos z, g]
        rfl
      · have g : vG (txL b e k f).2.2 (vL b e nm k f).1 (vL b e nm k f).2 0 0 = (1, (vL b e nm k f).2) := if_pos ⟨hf, z, rfl⟩
        rw [if_neg z, g]
/-- signs of the code: of a line, or its marks; the last is a line's end -/
theorem txL_e (k : Nat) (f : Int) : ∃ l, (txL b e k f).1 = l ++ [-59] ∧ ∀ s, s ∈ l → plS s ∨ s = -63 := by
  by_cases q : (txP b e 2500 0 0 k f).2.2 < 0 ∧ (txP b e 2500 0 0 k f).2.1 < e ∧ b (txP b e 2500 0 0 k f).2.1 = 63
  · rw [txL_q q]
    refine ⟨(txP b e 2500 0 0 k f).1 ++ -63 :: (txP b e 2500 0 0 ((txP b e 2500 0 0 k f).2.1 + 1) (txP b e 2500 0 0 k f).2.2).1, ?_, fun s h => ?_⟩
    · dsimp only
      rw [List.append_assoc]
      rfl
    · rcases List.mem_append.mp h with h1 | h1
      · exact Or.inl (txP_pl _ _ _ _ _ s h1)
      · rcases List.mem_cons.mp h1 with h2 | h2
        · exact Or.inr h2
        · exact Or.inl (txP_pl _ _ _ _ _ s h2)
  · rw [txL_n q]
    exact ⟨_, rfl, fun s h => Or.inl (txP_pl _ _ _ _ _ s h)⟩
def mkS (s : Int) : Prop := plS s ∨ s = -63 ∨ s = -59
theorem txS_e : ∀ (n k : Nat) (f : Int), ∃ l, (txS b e (n + 1) k f).1 = l ++ [-59] ∧ ∀ s, s ∈ l → mkS s
  | 0, k, f => by
    obtain ⟨l, h1, h2⟩ := txL_e (b := b) (e := e) k f
    rw [txS_s]
    have hm : ∀ s, s ∈ l → mkS s := fun s hs => by
      rcases h2 s hs with h | h
      · exact Or.inl h
      · exact Or.inr (Or.inl h)
    split
    · refine ⟨l, ?_, hm⟩
      show (txL b e k f).1 ++ [] = _
      rw [List.append_nil, h1]
    · exact ⟨l, h1, hm⟩
  | n + 1, k, f => by
    obtain ⟨l, h1, h2⟩ := txL_e (b := b) (e := e) k f
    have hm : ∀ s, s ∈ l → mkS s := fun s hs => by
      rcases h2 s hs with h | h
      · exact Or.inl h
      · exact Or.inr (Or.inl h)
    rw [txS_s]
    split
    · obtain ⟨l2, h3, h4⟩ := txS_e n ((txL b e k f).2.1 + 1) (txL b e k f).2.2
      refine ⟨(l ++ [-59]) ++ l2, ?_, fun s hs => ?_⟩
      · dsimp only
        rw [h1, h3, List.append_assoc, List.append_assoc, List.append_assoc]
      · rcases List.mem_append.mp hs with h5 | h5
        · rcases List.mem_append.mp h5 with h6 | h6
          · exact hm s h6
          · exact Or.inr (Or.inr (List.mem_singleton.mp h6))
        · exact h4 s h5
    · exact ⟨l, h1, hm⟩
end OTG
end
section
/-! THE LAW: the class works its code out -/
section OTH
variable {L : Nat} {xs : Nat → Int} {d : Nat} {v w : Nat → Nat → Int}
/-- numbers as in v, but the stack, which holds st -/
def stO (v w : Nat → Nat → Int) (st : List Int) : Prop := (∀ c, c ≠ 23 → c ≠ 28 → w c = v c) ∧ (∀ k, k ≠ 7 → w 23 k = v 23 k) ∧ w 23 7 = (st.length : Int) ∧ ∀ j, j < st.length → w 28 j = st.getD (st.length - 1 - j) 0
theorem k_push {st : List Int} (h : stO v w st) (hl : st.length < 120) (z : Int) : ∃ w', qE L xs (d + 1) nX5_push [(2, 23), (0, z)] (qS w) = some (none, qS w') ∧ stO v w' (z :: st) := by
  obtain ⟨h1, h2, h3, h4⟩ := h
  refine ⟨pm_up (pm_up w 28 st.length z) 23 7 ((st.length : Int) + 1), ?_, fun c c1 c2 => ?_, fun k hk => ?_, ?_, fun j hj => ?_⟩
  · rw [e_X5_push, b_X5_push_0, h3, if_pos (by omega), b_X5_push_12, h3, if_pos (by omega), Int.toNat_natCast, b_X5_push_22, up_ne (by omega), h3, w32_id (by omega) (by omega), b_X5_push_32]
  · rw [← h1 c c1 c2]
    funext k
    rw [up_ne (by omega), up_ne (by omega)]
  · rw [up_ne (by omega), up_ne (by omega)]
    exact h2 k hk
  · rw [up_eq]
    rfl
  · rw [up_ne (by omega)]
    have hl2 : (z :: st).length = st.length + 1 := rfl
    rw [hl2] at hj ⊢
    by_cases q : j = st.length
    · rw [q, up_eq, show st.length + 1 - 1 - st.length = 0 by omega]
      rfl
    · rw [up_ne (by omega), h4 j (by omega), show st.length + 1 - 1 - j = (st.length - 1 - j) + 1 by omega]
      rfl
theorem k_pop {st : List Int} (h : stO v w st) (hl : st.length ≤ 120) : ∃ w', qE L xs (d + 1) nX5_pop [(2, 23)] (qS w) = some (some (0, st.headD 0), qS w') ∧ stO v w' st.tail := by
  obtain ⟨h1, h2, h3, h4⟩ := h
  cases st with
  | nil =>
    refine ⟨w, ?_, h1, h2, h3, h4⟩
    have h3' : w 23 7 = 0 := h3
    rw [e_X5_pop, b_X5_pop_0, if_neg (by omega), b_X5_pop_7]
    rfl
  | cons s t =>
    have hl2 : (s :: t).length = t.length + 1 := rfl
    rw [hl2] at h3 hl h4
    refine ⟨pm_up w 23 7 (t.length : Int), ?_, fun c c1 c2 => ?_, fun k hk => ?_, ?_, fun j hj => ?_⟩
    · rw [e_X5_pop, b_X5_pop_0, if_pos (by omega), b_X5_pop_9, h3, show ((t.length + 1 : Nat) : Int) - 1 = (t.length : Int) by omega, w32_id (by omega) (by omega), b_X5_pop_19, up_eq, if_pos (by omega), Int.toNat_natCast, up_ne (by omega), h4 t.length (by omega), show t.length + 1 - 1 - t.length = 0 by omega, b_X5_pop_28]
      rfl
    · rw [← h1 c c1 c2]
      funext k
      rw [up_ne (by omega)]
    · rw [up_ne (by omega)]
      exact h2 k hk
    · rw [up_eq]
      rfl
    · have hj2 : j < t.length := hj
      rw [up_ne (by omega), h4 j (by omega), show t.length + 1 - 1 - j = (t.length - 1 - j) + 1 by omega]
      rfl
theorem k_truth (x : Int) : qE L xs (d + 1) nX5_truth [(0, x)] (qS v) = some (some (0, if x = 0 then 0 else 1), qS v) := by
  rw [e_X5_truth, b_X5_truth_0]
  by_cases h : x = 0
  · rw [if_pos h, if_pos h, b_X5_truth_8, b_X5_truth_9]
  · rw [if_neg h, if_neg h, b_X5_truth_4, b_X5_truth_9]
theorem k_joined (c a w : Int) : qE L xs (d + 2) nX5_joined [(0, c), (0, a), (0, w)] (qS v) = some (some (0, jn c a w), qS v) := by
  have t1 : qE L xs (d + 1) nX5_truth [(0, 1)] (qS v) = some (some (0, 1), qS v) := k_truth 1
  have t0 : qE L xs (d + 1) nX5_truth [(0, 0)] (qS v) = some (some (0, 0), qS v) := k_truth 0
  rw [e_X5_joined]
  unfold jn
  by_cases c1 : c = 124
  · rw [if_pos c1, b_X5_joined_0_v124 (h := c1), b_X5_joined_84]
    by_cases h : a = 0
    · rw [if_pos h, b_X5_joined_88]
      by_cases h2 : w = 0
      · rw [if_pos h2, b_X5_joined_96, b_X5_joined_97, t0, qB_some, psh_some, b_X5_joined_100, if_neg (by omega)]
      · rw [if_neg h2, b_X5_joined_92, b_X5_joined_97, t1, qB_some, psh_some, b_X5_joined_100, if_pos (Or.inr h2)]
    · rw [if_neg h, b_X5_joined_92, b_X5_joined_97, t1, qB_some, psh_some, b_X5_joined_100, if_pos (Or.inl h)]
  · rw [if_neg c1]
    by_cases c2 : c = 38
    · rw [if_pos c2, b_X5_joined_0_v38 (h := c2), b_X5_joined_101]
      by_cases h : a = 0
      · rw [if_pos h, b_X5_joined_113, b_X5_joined_114, t0, qB_some, psh_some, b_X5_joined_117, if_neg (by omega)]
      · rw [if_neg h, b_X5_joined_105]
        by_cases h2 : w = 0
        · rw [if_pos h2, b_X5_joined_113, b_X5_joined_114, t0, qB_some, psh_some, b_X5_joined_117, if_neg (by omega)]
        · rw [if_neg h2, b_X5_joined_109, b_X5_joined_114, t1, qB_some, psh_some, b_X5_joined_117, if_pos ⟨h, h2⟩]
    · rw [if_neg c2]
      by_cases c3 : c = 60
      · rw [if_pos c3, b_X5_joined_0_v60 (h := c3), b_X5_joined_118]
        by_cases h : a < w
        · rw [if_pos h, if_pos h, b_X5_joined_123, b_X5_joined_128, t1, qB_some, psh_some, b_X5_joined_131]
        · rw [if_neg h, if_neg h, b_X5_joined_127, b_X5_joined_128, t0, qB_some, psh_some, b_X5_joined_131]
      · rw [if_neg c3]
        by_cases c4 : c = 61
        · rw [if_pos c4, b_X5_joined_0_v61 (h := c4), b_X5_joined_132]
          by_cases h : a = w
          · rw [if_pos h, if_pos h, b_X5_joined_137, b_X5_joined_142, t1, qB_some, psh_some, b_X5_joined_145]
          · rw [if_neg h, if_neg h, b_X5_joined_141, b_X5_joined_142, t0, qB_some, psh_some, b_X5_joined_145]
        · rw [if_neg c4]
          by_cases c5 : c = 62
          · rw [if_pos c5, b_X5_joined_0_v62 (h := c5), b_X5_joined_146]
            by_cases h : w < a
            · rw [if_pos h, if_pos h, b_X5_joined_151, b_X5_joined_156, t1, qB_some, psh_some, b_X5_joined_159]
            · rw [if_neg h, if_neg h, b_X5_joined_155, b_X5_joined_156, t0, qB_some, psh_some, b_X5_joined_159]
          · rw [if_neg c5]
            by_cases c6 : c = 43
            · rw [if_pos c6, b_X5_joined_0_v43 (h := c6), b_X5_joined_160]
            · rw [if_neg c6]
              by_cases c7 : c = 45
              · rw [if_pos c7, b_X5_joined_0_v45 (h := c7), b_X5_joined_164]
              · rw [if_neg c7]
                by_cases c8 : c = 42
                · rw [if_pos c8, b_X5_joined_0_v42 (h := c8), b_X5_joined_168]
                · rw [if_neg c8]
                  by_cases c9 : c = 47
                  · rw [if_pos c9, b_X5_joined_0_v47 (h := c9), b_X5_joined_172]
                    by_cases h : w = 0
                    · rw [if_pos h, if_pos h, b_X5_joined_176, b_X5_joined_183]
                    · rw [if_neg h, if_neg h, b_X5_joined_180, if_neg h, b_X5_joined_183]
                  · rw [if_neg c9, b_X5_joined_0_o (h := by omega), b_X5_joined_184]
                    by_cases h : w = 0
                    · rw [if_pos h, if_pos h, b_X5_joined_188, b_X5_joined_195]
                    · rw [if_neg h, if_neg h, b_X5_joined_192, if_neg h, b_X5_joined_195]
theorem tl_len (st : List Int) : st.tail.length ≤ st.length := by
  cases st with
  | nil => exact Nat.le_refl _
  | cons a t => exact Nat.le_succ _
theorem exS_len (nm : Nat → Int) (s : Int) (st : List Int) : (exS nm s st).length ≤ st.length + 1 := by
  have h1 := tl_len st
  have h2 := tl_len st.tail
  unfold exS
  split
  · exact Nat.le_refl _
  · split
    · exact Nat.le_refl _
    · split
      · rw [List.length_cons]
        omega
      · split
        · rw [List.length_cons]
          omega
        · rw [List.length_cons]
          omega
theorem k_sign {nm : Nat → Int} (hn : ∀ i, i < 6 → v 27 i = nm i) {st : List Int} (h : stO v w st) (hl : st.length < 120) {s : Int} (hs : plS s) : ∃ w', qE L xs (d + 4) nX5_workOutSign [(2, 23), (0, s)] (qS w) = some (none, qS w') ∧ stO v w' (exS nm s st) := by
  have h27 : w 27 = v 27 := h.1 27 (by omega) (by omega)
  have l1 := tl_len st
  have l2 := tl_len st.tail
  unfold plS at hs
  rw [e_X5_workOutSign, b_X5_workOutSign_0]
  unfold exS
  by_cases s1 : 0 ≤ s
  · obtain ⟨w1, e1, e2⟩ := k_push (L := L) (xs := xs) (d := d + 2) h hl s
    refine ⟨w1, ?_, ?_⟩
    · rw [if_neg (by omega), b_X5_workOutSign_4, show d + 3 = d + 2 + 1 from rfl, e1, qB_some, psh_none, b_X5_workOutSign_9, b_X5_workOutSign_102]
    · rw [if_pos s1]
      exact e2
  · rw [if_pos (by omega), b_X5_workOutSign_12, if_neg s1]
    by_cases s2 : -6 ≤ s
    · obtain ⟨w1, e1, e2⟩ := k_push (L := L) (xs := xs) (d := d + 2) h hl (nm (-1 - s).toNat)
      refine ⟨w1, ?_, ?_⟩
      · rw [if_neg (by rw [w32_id (by omega) (by omega)]; omega), b_X5_workOutSign_22, w32_id (z := -1 - s) (by omega) (by omega), if_pos (by omega), h27, hn _ (by omega), b_X5_workOutSign_31, show d + 3 = d + 2 + 1 from rfl, e1, qB_some, psh_none, b_X5_workOutSign_34, b_X5_workOutSign_102]
      · rw [if_pos s2]
        exact e2
    · rw [if_pos (by rw [w32_id (by omega) (by omega)]; omega), b_X5_workOutSign_37, if_neg s2]
      by_cases s3 : s = -126
      · obtain ⟨w1, e1, e2⟩ := k_pop (L := L) (xs := xs) (d := d + 2) h (by omega)
        obtain ⟨w2, e3, e4⟩ := k_push (L := L) (xs := xs) (d := d + 2) e2 (by omega) (w32 (-(st.headD 0)))
        refine ⟨w2, ?_, ?_⟩
        · rw [if_pos s3, b_X5_workOutSign_43, show d + 3 = d + 2 + 1 from rfl, e1, qB_some, psh_some, b_X5_workOutSign_48, e3, qB_some, psh_none, b_X5_workOutSign_52, b_X5_workOutSign_102]
        · rw [if_pos s3]
          exact e4
      · rw [if_neg s3, b_X5_workOutSign_55, if_neg s3]
        by_cases s4 : s = -33
        · obtain ⟨w1, e1, e2⟩ := k_pop (L := L) (xs := xs) (d := d + 2) h (by omega)
          obtain ⟨w2, e3, e4⟩ := k_push (L := L) (xs := xs) (d := d + 2) e2 (by omega) (if st.headD 0 = 0 then 1 else 0)
          refine ⟨w2, ?_, ?_⟩
          · have tr : qE L xs (d + 2 + 1) nX5_truth [(0, if st.headD 0 = 0 then 1 else 0)] (qS w1) = some (some (0, if st.headD 0 = 0 then 1 else 0), qS w1) := by
              rw [k_truth]
              by_cases q : st.headD 0 = 0
              · rw [if_pos q]
                rfl
              · rw [if_neg q]
                rfl
            have st1 : qG L xs (d + 2 + 1) CX5_workOutSign 66 [(2, 23), (0, s), (9, 0)] [(0, st.headD 0), (2, 23)] (qS w1) = qG L xs (d + 2 + 1) CX5_workOutSign 74 [(2, 23), (0, s), (9, 0)] [(0, if st.headD 0 = 0 then 1 else 0), (2, 23)] (qS w1) := by
              rw [b_X5_workOutSign_66]
              by_cases q : st.headD 0 = 0
              · rw [if_pos q, if_pos q, b_X5_workOutSign_69]
              · rw [if_neg q, if_neg q, b_X5_workOutSign_73]
            rw [if_pos s4, b_X5_workOutSign_61, show d + 3 = d + 2 + 1 from rfl, e1, qB_some, psh_some, st1, b_X5_workOutSign_74, tr, qB_some, psh_some, b_X5_workOutSign_77, e3, qB_some, psh_none, b_X5_workOutSign_80, b_X5_workOutSign_102]
          · rw [if_pos s4]
            exact e4
        · obtain ⟨w1, e1, e2⟩ := k_pop (L := L) (xs := xs) (d := d + 2) h (by omega)
          obtain ⟨w2, e3, e4⟩ := k_pop (L := L) (xs := xs) (d := d + 2) e2 (by omega)
          obtain ⟨w3, e5, e6⟩ := k_push (L := L) (xs := xs) (d := d + 2) e4 (by omega) (jn (-s) (st.tail.headD 0) (st.headD 0))
          have j1 : qE L xs (d + 2 + 1) nX5_joined [(0, -s), (0, st.tail.headD 0), (0, st.headD 0)] (qS w2) = some (some (0, jn (-s) (st.tail.headD 0) (st.headD 0)), qS w2) := k_joined (d := d + 1) _ _ _
          refine ⟨w3, ?_, ?_⟩
          · rw [if_neg s4, b_X5_workOutSign_83, show d + 3 = d + 2 + 1 from rfl, e1, qB_some, psh_some, b_X5_workOutSign_87, e3, qB_some, psh_some, b_X5_workOutSign_95, w32_id (z := -s) (by omega) (by omega), j1, qB_some, psh_some, b_X5_workOutSign_99, e5, qB_some, psh_none, b_X5_workOutSign_102]
          · rw [if_neg s4]
            exact e6
theorem stO_M {st : List Int} (h : stO v w st) : fM v w := ⟨fun c h1 _ h3 => h.1 c h1 h3, h.2.1⟩
theorem k_loop {nm : Nat → Int} (hn : ∀ i, i < 6 → v 27 i = nm i) {c : Nat} (hc : c = 25 ∨ c = 26) (h1 : v 23 1 = .ofNat c) (N : Nat) (h5 : v 23 5 = (N : Int)) (hN : N ≤ 121) : ∀ (l : List Int) (i : Nat) (st : List Int) (p : Int) (w : Nat → Nat → Int) (u3 : pm_V), stO v w st → st.length ≤ i → i + l.length + 1 = N → (∀ (j : Nat) (z : Int), (l ++ [-59])[j]? = some z → v c (i + j) = z) → (∀ s, s ∈ l → mkS s) → (p = 0 ∨ p = 1) → ∃ w', qG L xs (d + 5) CX5_workOut 9 [(2, 23), (0, p), (0, (i : Int)), u3] [] (qS w) = some (some (0, cwk nm (l ++ [-59]) st p), qS w') ∧ fM v w' := by
  have hs : pm_get SH c = some (1, 0, 121) := by rcases hc with rfl | rfl <;> rfl
  have hr : ∀ k, refAt c k = none := by rcases hc with rfl | rfl <;> exact nr_of rfl
  -- the sign at i
  have rd : ∀ (i : Nat) (st : List Int) (p : Int) (w : Nat → Nat → Int) (u3 : pm_V), stO v w st → i < N → qG L xs (d + 5) CX5_workOut 9 [(2, 23), (0, p), (0, (i : Int)), u3] [] (qS w) = qG L xs (d + 5) CX5_workOut 32 [(2, 23), (0, p), (0, (i : Int)), u3] [(0, v c i)] (qS w) := fun i st p w u3 h hi => by
    have w5 : w 23 5 = (N : Int) := by rw [h.2.1 5 (by omega), h5]
    have w1 : w 23 1 = .ofNat c := by rw [h.2.1 1 (by omega), h1]
    have wc : w c = v c := h.1 c (by omega) (by omega)
    rw [b_X5_workOut_9, w5, if_pos (by omega), b_X5_workOut_17, w1]
    refine (qG_alen rfl (by omega) hs).trans ?_
    show qG L xs (d + 5) CX5_workOut 23 [(2, 23), (0, p), (0, (i : Int)), u3] [(0, 121), (0, (i : Int))] (qS w) = _
    rw [b_X5_workOut_23, if_pos (by omega), b_X5_workOut_26, w1]
    refine (qG_ald2 (Or.inl ⟨rfl, rfl, rfl⟩) rfl (by omega) hs (by omega) (by omega) (hr _)).trans ?_
    rw [wc, Int.toNat_natCast]
  intro l
  induction l with
  | nil =>
    intro i st p w u3 h hl hi hv hm hp
    have v0 : v c i = -59 := hv 0 (-59) rfl
    have hi2 : i + 0 + 1 = N := hi
    rw [rd i st p w u3 h (by omega), v0, b_X5_workOut_32, if_pos rfl, b_X5_workOut_39]
    rcases hp with rfl | rfl
    · obtain ⟨w1, e1, e2⟩ := k_pop (L := L) (xs := xs) (d := d + 4) h (by omega)
      refine ⟨w1, ?_, stO_M e2⟩
      rw [if_pos rfl, b_X5_workOut_43, show d + 5 = d + 4 + 1 from rfl, e1, qB_some, psh_some, b_X5_workOut_47]
      rfl
    · refine ⟨w, ?_, stO_M h⟩
      rw [if_neg (by decide), b_X5_workOut_48, b_X5_workOut_84, w32_id (by omega) (by omega), b_X5_workOut_9, h.2.1 5 (by omega), h5, if_neg (by omega), b_X5_workOut_90]
      rfl
  | cons s l ih =>
    intro i st p w u3 h hl hi hv hm hp
    have hi2 : i + (l.length + 1) + 1 = N := hi
    have f1 : i + 1 + l.length + 1 = N := by omega
    have f2 : st.length < 120 := by omega
    have f3 : st.length ≤ i + 1 := by omega
    have f4 : i < N := by omega
    have v0 : v c i = s := hv 0 s rfl
    have hv2 : ∀ (j : Nat) (z : Int), (l ++ [-59])[j]? = some z → v c (i + 1 + j) = z := fun j z hz => by
      rw [show i + 1 + j = i + (j + 1) by omega]
      exact hv (j + 1) z hz
    have hm2 : ∀ s, s ∈ l → mkS s := fun z hz => hm z (List.mem_cons_of_mem s hz)
    have hms := hm s List.mem_cons_self
    have wi : w32 ((i : Int) + 1) = ((i + 1 : Nat) : Int) := by rw [w32_id (by omega) (by omega)]; omega
    rw [rd i st p w u3 h f4, v0, b_X5_workOut_32]
    show ∃ w', _ = some (some (0, cwk nm (s :: (l ++ [-59])) st p), qS w') ∧ _
    by_cases s1 : s = -59
    · subst s1
      rw [if_pos rfl, b_X5_workOut_39]
      rcases hp with rfl | rfl
      · obtain ⟨w1, e1, e2⟩ := k_pop (L := L) (xs := xs) (d := d + 4) h (Nat.le_of_lt f2)
        refine ⟨w1, ?_, stO_M e2⟩
        rw [if_pos rfl, b_X5_workOut_43, show d + 5 = d + 4 + 1 from rfl, e1, qB_some, psh_some, b_X5_workOut_47, cwk_e0]
      · obtain ⟨w1, e1, e2⟩ := ih (i + 1) st 0 w (0, -59) h f3 f1 hv2 hm2 (Or.inl rfl)
        refine ⟨w1, ?_, e2⟩
        rw [if_neg (by decide), b_X5_workOut_48, b_X5_workOut_84, wi, cwk_e1]
        exact e1
    · rw [if_neg s1, b_X5_workOut_53]
      by_cases s2 : s = -63
      · subst s2
        obtain ⟨w1, e1, e2⟩ := k_pop (L := L) (xs := xs) (d := d + 4) h (Nat.le_of_lt f2)
        have tl := tl_len st
        obtain ⟨w2, e3, e4⟩ := ih (i + 1) st.tail (if st.headD 0 = 0 then 1 else 0) w1 (0, -63) e2 (Nat.le_trans tl f3) f1 hv2 hm2 (by split; exact Or.inr rfl; exact Or.inl rfl)
        refine ⟨w2, ?_, e4⟩
        have st1 : qG L xs (d + 5) CX5_workOut 63 [(2, 23), (0, p), (0, (i : Int)), (0, -63)] [(0, st.headD 0)] (qS w1) = qG L xs (d + 5) CX5_workOut 71 [(2, 23), (0, p), (0, (i : Int)), (0, -63)] [(0, if st.headD 0 = 0 then 1 else 0)] (qS w1) := by
          rw [b_X5_workOut_63]
          by_cases q : st.headD 0 = 0
          · rw [if_pos q, if_pos q, b_X5_workOut_66]
          · rw [if_neg q, if_neg q, b_X5_workOut_70]
        rw [if_pos rfl, b_X5_workOut_59, show d + 5 = d + 4 + 1 from rfl, e1, qB_some, psh_some, show d + 4 + 1 = d + 5 from rfl, st1, b_X5_workOut_71, b_X5_workOut_84, wi, cwk_if]
        exact e3
      · have pl : plS s := by
          rcases hms with q | q | q
          · exact q
          · exact absurd q s2
          · exact absurd q s1
        rw [if_neg s2, b_X5_workOut_75]
        rcases hp with rfl | rfl
        · obtain ⟨w1, e1, e2⟩ := k_sign (L := L) (xs := xs) (d := d + 1) hn h f2 pl
          have el := exS_len nm s st
          obtain ⟨w2, e3, e4⟩ := ih (i + 1) _ 0 w1 (0, s) e2 (Nat.le_trans el (Nat.add_le_add_right hl 1)) f1 hv2 hm2 (Or.inl rfl)
          refine ⟨w2, ?_, e4⟩
          rw [if_pos rfl, b_X5_workOut_79, show d + 5 = d + 1 + 4 from rfl, e1, qB_some, psh_none, show d + 1 + 4 = d + 5 from rfl, b_X5_workOut_84, wi, cwk_c0 pl]
          exact e3
        · obtain ⟨w2, e3, e4⟩ := ih (i + 1) st 1 w (0, s) h f3 f1 hv2 hm2 (Or.inr rfl)
          refine ⟨w2, ?_, e4⟩
          rw [if_neg (by decide), b_X5_workOut_84, wi, cwk_c1 pl]
          exact e3
theorem k_workOut {nm : Nat → Int} (hn : ∀ i, i < 6 → v 27 i = nm i) {c : Nat} (hc : c = 25 ∨ c = 26) (h1 : v 23 1 = .ofNat c) {l : List Int} (h5 : v 23 5 = ((l ++ [-59]).length : Int)) (hN : (l ++ [-59]).length ≤ 121) (hv : ∀ (j : Nat) (z : Int), (l ++ [-59])[j]? = some z → v c j = z) (hm : ∀ s, s ∈ l → mkS s) : ∃ w', qE L xs (d + 6) nX5_workOut [(2, 23)] (qS v) = some (some (0, cwk nm (l ++ [-59]) [] 0), qS w') ∧ fM v w' := by
  have hl : (l ++ [-59]).length = l.length + 1 := by
    rw [List.length_append]
    rfl
  have st0 : stO (pm_up v 23 7 0) (pm_up v 23 7 0) [] := ⟨fun _ _ _ => rfl, fun _ _ => rfl, up_eq _ _ _ _, fun j hj => absurd hj (Nat.not_lt_zero j)⟩
  obtain ⟨w', e1, e2⟩ := k_loop (L := L) (xs := xs) (d := d) (v := pm_up v 23 7 0) (nm := nm) (fun i hi => by rw [up_ne (by omega)]; exact hn i hi) hc (by rw [up_ne (by omega)]; exact h1) (l.length + 1) (by rw [up_ne (by omega), h5, hl]) (by omega) l 0 [] 0 _ (9, 0) st0 (Nat.le_refl _) (by omega) (fun j z hz => by rw [up_ne (by omega), Nat.zero_add]; exact hv j z hz) hm (Or.inl rfl)
  refine ⟨w', ?_, fun c a1 a2 a3 => ?_, fun k hk => ?_⟩
  · rw [show d + 6 = d + 5 + 1 from rfl, e_X5_workOut, b_X5_workOut_0, b_X5_workOut_5]
    exact e1
  · rw [e2.1 c a1 a2 a3]
    funext k
    rw [up_ne (by omega)]
  · rw [e2.2 k hk, up_ne (by omega)]
end OTH
end
