/-! THE REFERENCE's spreading: a turn keeps what is known; goesFrom() tells the minutes -/
section DK
variable {L : Nat} {xs : Nat → Int} {d : Nat} {v : Nat → Nat → Int}
theorem dj_turn {E : Nat → Nat → Int → Prop} {g : Nat → Nat → Int} {N s t q : Nat} {m f : Nat → Int} (hE : ∀ a b, a < N → b < N → g a b < 1000000 → E a b (g a b)) (hg : ∀ a b, a < N → b < N → 1 ≤ g a b ∧ g a b ≤ 1000000) (hs : s < N) (h : Dj E g N s m f t) (hq : q < N) (hf : f q = 0) (hm : ∀ p, p < N → f p = 0 → m q ≤ m p) : Dj E g N s (if m q < 1000000 then rlx m (g q) q N else m) (fun p => if p = q then 1 else f p) (t + 1) := by
  obtain ⟨⟨j1, j2, j3⟩, f1, f2, r1, r2⟩ := h
  have qb := j2 q hq
  have fc := cnt_set (f := f) (q := q) (z := 1) (by decide) hf (n := N)
  rw [if_pos hq] at fc
  have f1' : ∀ p, p < N → (if p = q then (1 : Int) else f p) = 0 ∨ (if p = q then (1 : Int) else f p) = 1 := fun p hp => by
    by_cases hpq : p = q
    · rw [if_pos hpq]; exact Or.inr rfl
    · rw [if_neg hpq]; exact f1 p hp
  by_cases hl : m q < 1000000
  · rw [if_pos hl]
    have le : ∀ p, rlx m (g q) q N p ≤ m p := fun p => by
      unfold rlx
      by_cases hc : p < N ∧ m q + g q p < m p
      · rw [if_pos hc]; omega
      · rw [if_neg hc]; omega
    have rl : ∀ p, p < N → rlx m (g q) q N p ≤ m q + g q p := fun p hp => by
      unfold rlx
      by_cases hc : p < N ∧ m q + g q p < m p
      · rw [if_pos hc]; omega
      · rw [if_neg hc]; omega
    have ge : ∀ p, p < N → m q ≤ m p → m q ≤ rlx m (g q) q N p := fun p hp hle => by
      have := hg q p hq hp
      unfold rlx
      by_cases hc : p < N ∧ m q + g q p < m p
      · rw [if_pos hc]; omega
      · rw [if_neg hc]; omega
    have sm : ∀ p, p < N → m p ≤ m q → rlx m (g q) q N p = m p := fun p hp hle => by
      have := hg q p hq hp
      exact if_neg (by omega)
    have su : ∀ p, p < N → f p = 1 → m p ≤ m q := fun p hp hp1 => r2 p q hp hq hp1 hf
    refine ⟨⟨?_, fun p hp => ?_, fun p hp hmp => ?_⟩, f1', by omega, fun a b ha hb hfa hma => ?_, fun a b ha hb hfa hfb => ?_⟩
    · rw [sm s hs (by omega)]; exact j1
    · have a1 := j2 p hp
      have a2 := le p
      by_cases hle : m q ≤ m p
      · have := ge p hp hle; omega
      · rw [sm p hp (by omega)]; exact a1
    · by_cases hc : p < N ∧ m q + g q p < m p
      · have e : rlx m (g q) q N p = m q + g q p := if_pos hc
        have a1 := j2 p hp
        obtain ⟨n, hn⟩ := j3 q hq hl
        rw [e]
        exact ⟨n + 1, Wk_snoc hn (hE q p hq hp (by omega))⟩
      · have e : rlx m (g q) q N p = m p := if_neg hc
        rw [e] at hmp ⊢
        exact j3 p hp hmp
    · dsimp only at hfa
      by_cases haq : a = q
      · rw [haq, sm q hq (Int.le_refl _)]
        exact rl b hb
      · rw [if_neg haq] at hfa
        have a1 := su a ha hfa
        rw [sm a ha a1] at hma ⊢
        have a2 := r1 a b ha hb hfa hma
        have a3 := le b
        omega
    · dsimp only at hfa hfb
      have hbq : b ≠ q := fun w => by rw [if_pos w] at hfb; exact absurd hfb (by decide)
      rw [if_neg hbq] at hfb
      have b1 := ge b hb (hm b hb hfb)
      by_cases haq : a = q
      · rw [haq, sm q hq (Int.le_refl _)]; exact b1
      · rw [if_neg haq] at hfa
        have a1 := su a ha hfa
        rw [sm a ha a1]
        omega
  · rw [if_neg hl]
    refine ⟨⟨j1, j2, j3⟩, f1', by omega, fun a b ha hb hfa hma => ?_, fun a b ha hb hfa hfb => ?_⟩
    · dsimp only at hfa
      by_cases haq : a = q
      · rw [haq] at hma; exact absurd hma hl
      · rw [if_neg haq] at hfa; exact r1 a b ha hb hfa hma
    · dsimp only at hfa hfb
      have hbq : b ≠ q := fun w => by rw [if_pos w] at hfb; exact absurd hfb (by decide)
      rw [if_neg hbq] at hfb
      by_cases haq : a = q
      · rw [haq]; exact hm b hb hfb
      · rw [if_neg haq] at hfa; exact r2 a b ha hb hfa hfb
end DK
