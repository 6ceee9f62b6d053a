/-! THE LAW, plainly: the class's code, worked out, is what the lines give -/
section OTG
variable {b : Nat → Int} {e : Nat} {nm : Nat → Int}
/-- a sign that stands within a line -/
def plS (s : Int) : Prop := -126 ≤ s ∧ s < 10000 ∧ s ≠ -59 ∧ s ≠ -63
/-- the code, worked out: signs, what is stacked, whether a line is passed over -/
def cwk (nm : Nat → Int) : List Int → List Int → Int → Int
  | [], _, _ => 0
  | s :: l, st, p => if s = -59 then (if p = 0 then st.headD 0 else cwk nm l st 0) else if s = -63 then cwk nm l st.tail (if st.headD 0 = 0 then 1 else 0) else if p = 0 then cwk nm l (exS nm s st) p else cwk nm l st p
theorem txP_pl : ∀ (n m o k : Nat) (f : Int), ∀ s, s ∈ (txP b e n m o k f).1 → plS s
  | 0, _, _, _, _, s, h => absurd h (by exact List.not_mem_nil)
  | n + 1, m, o, k, f, s, h => by
    unfold txP at h
    by_cases g : m < 5
    · rw [if_pos g] at h
      rcases List.mem_append.mp h with h1 | h1
      · exact txP_pl n _ _ _ _ s h1
      · exact txP_pl n _ _ _ _ s h1
    · rw [if_neg g] at h
      by_cases g5 : m = 5
      · rw [if_pos g5] at h
        by_cases hf : f < 0
        · rw [if_pos hf] at h
          by_cases hk : k < e
          · rw [if_pos hk] at h
            by_cases q1 : 0 ≤ nmI (b k)
            · have := nmI_r (b k)
              rw [if_pos q1] at h
              have h2 := List.mem_singleton.mp h
              unfold plS
              omega
            · rw [if_neg q1] at h
              by_cases q2 : dgt (b k)
              · have := rd_v (b := b) (e := e) 4 0 k (by omega) (by decide) (by omega)
                rw [if_pos q2] at h
                have h2 := List.mem_singleton.mp h
                unfold plS
                omega
              · rw [if_neg q2] at h
                by_cases q3 : o < 6 ∧ b k = 40
                · rw [if_pos q3] at h
                  by_cases q4 : (txP b e n 0 (o + 1) (k + 1) f).2.2 < 0 ∧ (txP b e n 0 (o + 1) (k + 1) f).2.1 < e ∧ b (txP b e n 0 (o + 1) (k + 1) f).2.1 = 41
                  · rw [if_pos q4] at h
                    exact txP_pl n _ _ _ _ s h
                  · rw [if_neg q4] at h
                    exact txP_pl n _ _ _ _ s h
                · rw [if_neg q3] at h
                  by_cases q4 : o < 6 ∧ (b k = 33 ∨ b k = 45)
                  · rw [if_pos q4] at h
                    rcases List.mem_append.mp h with h1 | h1
                    · exact txP_pl n _ _ _ _ s h1
                    · have h2 := List.mem_singleton.mp h1
                      unfold plS
                      by_cases q5 : b k = 45
                      · rw [if_pos q5] at h2
                        omega
                      · rw [if_neg q5] at h2
                        omega
                  · rw [if_neg q4] at h
                    exact absurd h (by exact List.not_mem_nil)
          · rw [if_neg hk] at h
            exact absurd h (by exact List.not_mem_nil)
        · rw [if_neg hf] at h
          exact absurd h (by exact List.not_mem_nil)
      · rw [if_neg g5] at h
        by_cases q : f < 0 ∧ k < e ∧ sgn (m - 10) (b k)
        · rw [if_pos q] at h
          have sg : plS (-(b k)) := by
            have := q.2.2
            unfold sgn at this
            unfold plS
            omega
          by_cases q2 : m = 12
          · rw [if_pos q2] at h
            rcases List.mem_append.mp h with h1 | h1
            · exact txP_pl n _ _ _ _ s h1
            · rw [List.mem_singleton.mp h1]
              exact sg
          · rw [if_neg q2] at h
            rcases List.mem_append.mp h with h1 | h1
            · exact txP_pl n _ _ _ _ s h1
            · rcases List.mem_cons.mp h1 with h2 | h2
              · rw [h2]
                exact sg
              · exact txP_pl n _ _ _ _ s h2
        · rw [if_neg q] at h
          exact absurd h (by exact List.not_mem_nil)
theorem cwk_c0 {s : Int} (h : plS s) (l st : List Int) : cwk nm (s :: l) st 0 = cwk nm l (exS nm s st) 0 := by
  unfold plS at h
  rw [show cwk nm (s :: l) st 0 = if s = -59 then (if (0 : Int) = 0 then st.headD 0 else cwk nm l st 0) else if s = -63 then cwk nm l st.tail (if st.headD 0 = 0 then 1 else 0) else if (0 : Int) = 0 then cwk nm l (exS nm s st) 0 else cwk nm l st 0 from rfl, if_neg (by omega), if_neg (by omega), if_pos rfl]
theorem cwk_c1 {s : Int} (h : plS s) (l st : List Int) : cwk nm (s :: l) st 1 = cwk nm l st 1 := by
  unfold plS at h
  rw [show cwk nm (s :: l) st 1 = if s = -59 then (if (1 : Int) = 0 then st.headD 0 else cwk nm l st 0) else if s = -63 then cwk nm l st.tail (if st.headD 0 = 0 then 1 else 0) else if (1 : Int) = 0 then cwk nm l (exS nm s st) 1 else cwk nm l st 1 from rfl, if_neg (by omega), if_neg (by omega), if_neg (by decide)]
theorem cwk_if (l st : List Int) (p : Int) : cwk nm (-63 :: l) st p = cwk nm l st.tail (if st.headD 0 = 0 then 1 else 0) := (if_neg (by decide)).trans (if_pos rfl)
theorem cwk_e0 (l st : List Int) : cwk nm (-59 :: l) st 0 = st.headD 0 := (if_pos rfl).trans (if_pos rfl)
theorem cwk_e1 (l st : List Int) : cwk nm (-59 :: l) st 1 = cwk nm l st 0 := (if_pos rfl).trans (if_neg (by decide))
theorem cwk_a0 : ∀ (l r st : List Int), (∀ s, s ∈ l → plS s) → cwk nm (l ++ r) st 0 = cwk nm r (exL nm l st) 0
  | [], r, st, h => rfl
  | s :: l, r, st, h => by
    show cwk nm (s :: (l ++ r)) st 0 = _
    rw [cwk_c0 (h s List.mem_cons_self), cwk_a0 l r _ (fun z hz => h z (List.mem_cons_of_mem s hz)), exL_cons]
theorem cwk_a1 : ∀ (l r st : List Int), (∀ s, s ∈ l → plS s) → cwk nm (l ++ r) st 1 = cwk nm r st 1
  | [], r, st, h => rfl
  | s :: l, r, st, h => by
    show cwk nm (s :: (l ++ r)) st 1 = _
    rw [cwk_c1 (h s List.mem_cons_self), cwk_a1 l r _ (fun z hz => h z (List.mem_cons_of_mem s hz))]
theorem exP0 (he : e ≤ 120) {k : Nat} {f : Int} (st : List Int) (hk : k ≤ e) (hf : (txP b e 2500 0 0 k f).2.2 < 0) : exL nm (txP b e 2500 0 0 k f).1 st = vP b e nm 2500 0 0 k f 0 :: st := by
  have := exP (nm := nm) he 2500 0 0 k f 0 st hk (by omega) (by have : rkT 0 = 12 := rfl; rw [this]; omega) hf
  rw [if_neg (by omega)] at this
  exact this
theorem cwk_line (he : e ≤ 120) {k : Nat} {f : Int} (r st : List Int) (hk : k ≤ e) (hf : (txL b e k f).2.2 < 0) : cwk nm ((txL b e k f).1 ++ r) st 0 = if (vL b e nm k f).1 = 0 then cwk nm r st 0 else (vL b e nm k f).2 := by
  have a := txP_le (b := b) (e := e) 2500 0 0 k f hk
  by_cases q : (txP b e 2500 0 0 k f).2.2 < 0 ∧ (txP b e 2500 0 0 k f).2.1 < e ∧ b (txP b e 2500 0 0 k f).2.1 = 63
  · have vl : vL b e nm k f = (if vP b e nm 2500 0 0 k f 0 = 0 then 0 else 1, vP b e nm 2500 0 0 ((txP b e 2500 0 0 k f).2.1 + 1) (txP b e 2500 0 0 k f).2.2 0) := if_pos q
    rw [txL_q q] at hf ⊢
    rw [vl]
    dsimp only at hf ⊢
    rw [List.append_assoc, cwk_a0 _ _ _ (txP_pl _ _ _ _ _), exP0 he st hk q.1]
    show cwk nm (-63 :: (((txP b e 2500 0 0 ((txP b e 2500 0 0 k f).2.1 + 1) (txP b e 2500 0 0 k f).2.2).1 ++ [-59]) ++ r)) _ 0 = _
    rw [cwk_if, List.append_assoc]
    show cwk nm _ st (if vP b e nm 2500 0 0 k f 0 = 0 then 1 else 0) = _
    by_cases z : vP b e nm 2500 0 0 k f 0 = 0
    · rw [if_pos z, if_pos z, if_pos rfl, cwk_a1 _ _ _ (txP_pl _ _ _ _ _)]
      exact cwk_e1 r st
    · rw [if_neg z, if_neg z, if_neg (by decide), cwk_a0 _ _ _ (txP_pl _ _ _ _ _), exP0 he st (by omega) hf]
      exact cwk_e0 r _
  · have vl : vL b e nm k f = (1, vP b e nm 2500 0 0 k f 0) := if_neg q
    rw [txL_n q] at hf ⊢
    rw [vl]
    dsimp only at hf ⊢
    rw [List.append_assoc, cwk_a0 _ _ _ (txP_pl _ _ _ _ _), exP0 he st hk hf, if_neg (by decide)]
    exact cwk_e0 r _
theorem vS_1 (n : Nat) : ∀ (k : Nat) (f y : Int), vS b e nm n k f 1 y = y := by
  induction n with
  | zero => intro k f y; rfl
  | succ n ih =>
    intro k f y
    have g : ∀ f h z, vG f h z 1 y = (1, y) := fun f h z => if_neg (by omega)
    rw [vS_s, g]
    split
    · exact ih _ _ _
    · rfl
theorem cwk_all (he : e ≤ 120) : ∀ (n k : Nat) (f : Int) (st : List Int), k ≤ e → (txS b e n k f).2.2 < 0 → cwk nm (txS b e n k f).1 st 0 = vS b e nm n k f 0 0
  | 0, k, f, st, hk, hf => rfl
  | n + 1, k, f, st, hk, hf => by
    have a := txL_le (b := b) (e := e) f hk
    rw [txS_s] at hf ⊢
    rw [vS_s]
    by_cases q : (txL b e k f).2.2 < 0 ∧ (txL b e k f).2.1 < e ∧ b (txL b e k f).2.1 = 59
    · rw [if_pos q] at hf ⊢
      rw [if_pos q]
      dsimp only at hf ⊢
      rw [cwk_line he _ st hk q.1]
      by_cases z : (vL b e nm k f).1 = 0
      · have g : vG (txL b e k f).2.2 (vL b e nm k f).1 (vL b e nm k f).2 0 0 = (0, 0) := if_neg (fun t => t.2.1 z)
        rw [if_pos z, g, cwk_all he n _ _ st (by omega) hf]
      · have g : vG (txL b e k f).2.2 (vL b e nm k f).1 (vL b e nm k f).2 0 0 = (1, (vL b e nm k f).2) := if_pos ⟨q.1, z, rfl⟩
        rw [if_neg z, g, vS_1]
    · rw [if_neg q] at hf ⊢
      rw [if_neg q]
      have := cwk_line (nm := nm) he [] st hk hf
      rw [List.append_nil] at this
      rw [this]
      by_cases z : (vL b e nm k f).1 = 0
      · have g : vG (txL b e k f).2.2 (vL b e nm k f).1 (vL b e nm k f).2 0 0 = (0, 0) := if_neg (fun t => t.2.1 z)
        rw [if_pos z, g]
        rfl
      · have g : vG (txL b e k f).2.2 (vL b e nm k f).1 (vL b e nm k f).2 0 0 = (1, (vL b e nm k f).2) := if_pos ⟨hf, z, rfl⟩
        rw [if_neg z, g]
/-- signs of the code: of a line, or its marks; the last is a line's end -/
theorem txL_e (k : Nat) (f : Int) : ∃ l, (txL b e k f).1 = l ++ [-59] ∧ ∀ s, s ∈ l → plS s ∨ s = -63 := by
  by_cases q : (txP b e 2500 0 0 k f).2.2 < 0 ∧ (txP b e 2500 0 0 k f).2.1 < e ∧ b (txP b e 2500 0 0 k f).2.1 = 63
  · rw [txL_q q]
    refine ⟨(txP b e 2500 0 0 k f).1 ++ -63 :: (txP b e 2500 0 0 ((txP b e 2500 0 0 k f).2.1 + 1) (txP b e 2500 0 0 k f).2.2).1, ?_, fun s h => ?_⟩
    · dsimp only
      rw [List.append_assoc]
      rfl
    · rcases List.mem_append.mp h with h1 | h1
      · exact Or.inl (txP_pl _ _ _ _ _ s h1)
      · rcases List.mem_cons.mp h1 with h2 | h2
        · exact Or.inr h2
        · exact Or.inl (txP_pl _ _ _ _ _ s h2)
  · rw [txL_n q]
    exact ⟨_, rfl, fun s h => Or.inl (txP_pl _ _ _ _ _ s h)⟩
def mkS (s : Int) : Prop := plS s ∨ s = -63 ∨ s = -59
theorem txS_e : ∀ (n k : Nat) (f : Int), ∃ l, (txS b e (n + 1) k f).1 = l ++ [-59] ∧ ∀ s, s ∈ l → mkS s
  | 0, k, f => by
    obtain ⟨l, h1, h2⟩ := txL_e (b := b) (e := e) k f
    rw [txS_s]
    have hm : ∀ s, s ∈ l → mkS s := fun s hs => by
      rcases h2 s hs with h | h
      · exact Or.inl h
      · exact Or.inr (Or.inl h)
    split
    · refine ⟨l, ?_, hm⟩
      show (txL b e k f).1 ++ [] = _
      rw [List.append_nil, h1]
    · exact ⟨l, h1, hm⟩
  | n + 1, k, f => by
    obtain ⟨l, h1, h2⟩ := txL_e (b := b) (e := e) k f
    have hm : ∀ s, s ∈ l → mkS s := fun s hs => by
      rcases h2 s hs with h | h
      · exact Or.inl h
      · exact Or.inr (Or.inl h)
    rw [txS_s]
    split
    · obtain ⟨l2, h3, h4⟩ := txS_e n ((txL b e k f).2.1 + 1) (txL b e k f).2.2
      refine ⟨(l ++ [-59]) ++ l2, ?_, fun s hs => ?_⟩
      · dsimp only
        rw [h1, h3, List.append_assoc, List.append_assoc, List.append_assoc]
      · rcases List.mem_append.mp hs with h5 | h5
        · rcases List.mem_append.mp h5 with h6 | h6
          · exact hm s h6
          · exact Or.inr (Or.inr (List.mem_singleton.mp h6))
        · exact h4 s h5
    · exact ⟨l, h1, hm⟩
end OTG
