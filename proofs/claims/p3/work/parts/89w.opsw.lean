/-! THE LAW, plainly: what is read, what it is worth -/
section OW3
variable {b : Nat → Int} {e : Nat} {nm : Nat → Int}
/-- two joined by a sign -/
def jn (c a w : Int) : Int := if c = 124 then (if a ≠ 0 ∨ w ≠ 0 then 1 else 0) else if c = 38 then (if a ≠ 0 ∧ w ≠ 0 then 1 else 0) else if c = 60 then (if a < w then 1 else 0) else if c = 61 then (if a = w then 1 else 0) else if c = 62 then (if w < a then 1 else 0) else if c = 43 then w32 (a + w) else if c = 45 then w32 (a - w) else if c = 42 then w32 (a * w) else if c = 47 then (if w = 0 then 0 else w32 (Int.tdiv a w)) else (if w = 0 then 0 else Int.tmod a w)
/-- the worth of what is read from k on (a: what stands ahead of a loop) -/
def vP (b : Nat → Int) (e : Nat) (nm : Nat → Int) : Nat → Nat → Nat → Nat → Int → Int → Int
  | 0, _, _, _, _, a => a
  | n + 1, m, o, k, f, a =>
    if m < 5 then vP b e nm n (10 + m) o (txP b e n (m + 1) o k f).2.1 (txP b e n (m + 1) o k f).2.2 (vP b e nm n (m + 1) o k f 0)
    else if m = 5 then
      (if f < 0 then
        (if k < e then
          (if 0 ≤ nmI (b k) then nm (nmI (b k)).toNat
          else if dgt (b k) then (rdNum b e 4 0 k).1
          else if o < 6 ∧ b k = 40 then
            (if (txP b e n 0 (o + 1) (k + 1) f).2.2 < 0 ∧ (txP b e n 0 (o + 1) (k + 1) f).2.1 < e ∧ b (txP b e n 0 (o + 1) (k + 1) f).2.1 = 41 then vP b e nm n 0 (o + 1) (k + 1) f 0 else 0)
          else if o < 6 ∧ (b k = 33 ∨ b k = 45) then (if b k = 45 then w32 (-(vP b e nm n 5 (o + 1) (k + 1) f 0)) else if vP b e nm n 5 (o + 1) (k + 1) f 0 = 0 then 1 else 0)
          else 0)
        else 0)
      else 0)
    else
      (if f < 0 ∧ k < e ∧ sgn (m - 10) (b k) then
        (if m = 12 then jn (b k) a (vP b e nm n (m - 10 + 1) o (k + 1) f 0)
        else vP b e nm n m o (txP b e n (m - 10 + 1) o (k + 1) f).2.1 (txP b e n (m - 10 + 1) o (k + 1) f).2.2 (jn (b k) a (vP b e nm n (m - 10 + 1) o (k + 1) f 0)))
      else a)
theorem rd_le : ∀ (n : Nat) (z : Int) (k : Nat), k ≤ e → k ≤ (rdNum b e n z k).2 ∧ (rdNum b e n z k).2 ≤ e
  | 0, z, k, h => ⟨Nat.le_refl _, h⟩
  | n + 1, z, k, h => by
    unfold rdNum
    by_cases g : k < e ∧ dgt (b k)
    · rw [if_pos g]
      have := rd_le n (z * 10 + b k - 48) (k + 1) (by omega)
      omega
    · rw [if_neg g]
      exact ⟨Nat.le_refl _, h⟩
theorem rd_lt (k : Nat) (h : k < e) (g : dgt (b k)) : k < (rdNum b e 4 0 k).2 ∧ (rdNum b e 4 0 k).2 ≤ e := by
  have : rdNum b e 4 0 k = rdNum b e 3 (0 * 10 + b k - 48) (k + 1) := if_pos ⟨h, g⟩
  rw [this]
  have := rd_le (b := b) (e := e) 3 (0 * 10 + b k - 48) (k + 1) (by omega)
  omega
theorem rd_v : ∀ (n : Nat) (z : Int) (k : Nat), 0 ≤ z → z < 10 ^ (4 - n) → n ≤ 4 → 0 ≤ (rdNum b e n z k).1 ∧ (rdNum b e n z k).1 < 10000
  | 0, z, k, h1, h2, h3 => ⟨h1, h2⟩
  | n + 1, z, k, h1, h2, h3 => by
    unfold rdNum
    by_cases g : k < e ∧ dgt (b k)
    · rw [if_pos g]
      have p : (10 : Int) ^ (4 - n) = 10 * 10 ^ (4 - (n + 1)) := by
        rw [show 4 - n = (4 - (n + 1)) + 1 by omega, Int.pow_succ, Int.mul_comm]
      have d := g.2
      unfold dgt at d
      refine rd_v n (z * 10 + b k - 48) (k + 1) (by omega) ?_ (by omega)
      rw [p]
      omega
    · rw [if_neg g]
      have p : (10 : Int) ^ (4 - (n + 1)) ≤ 10 ^ 4 := by
        have : n = 0 ∨ n = 1 ∨ n = 2 ∨ n = 3 := by omega
        rcases this with rfl | rfl | rfl | rfl <;> decide
      exact ⟨h1, by omega⟩
/-- once a fault is found nothing more is read -/
theorem txP_f : ∀ (n m o k : Nat) (f : Int), 0 ≤ f → txP b e n m o k f = ([], k, f)
  | 0, _, _, _, _, _ => rfl
  | n + 1, m, o, k, f, hf => by
    unfold txP
    by_cases g : m < 5
    · rw [if_pos g, txP_f n (m + 1) o k f hf]
      show ([] ++ (txP b e n (10 + m) o k f).1, (txP b e n (10 + m) o k f).2) = _
      rw [txP_f n (10 + m) o k f hf]
      rfl
    · rw [if_neg g]
      by_cases g5 : m = 5
      · rw [if_pos g5, if_neg (by omega)]
      · rw [if_neg g5, if_neg (by omega)]
/-- what is read goes on, ends at the end, and no more is written than read -/
theorem txP_le : ∀ (n m o k : Nat) (f : Int), k ≤ e → k ≤ (txP b e n m o k f).2.1 ∧ (txP b e n m o k f).2.1 ≤ e ∧ (txP b e n m o k f).1.length + k ≤ (txP b e n m o k f).2.1 ∧ ((txP b e n m o k f).2.2 = f ∨ (0 ≤ (txP b e n m o k f).2.2 ∧ (txP b e n m o k f).2.2 ≤ e))
  | 0, _, _, k, _, h => ⟨Nat.le_refl _, h, Nat.le_of_eq (Nat.zero_add k), Or.inl rfl⟩
  | n + 1, m, o, k, f, h => by
    unfold txP
    by_cases g : m < 5
    · rw [if_pos g]
      have a := txP_le n (m + 1) o k f h
      have c := txP_le n (10 + m) o (txP b e n (m + 1) o k f).2.1 (txP b e n (m + 1) o k f).2.2 a.2.1
      dsimp only
      rw [List.length_append]
      omega
    · rw [if_neg g]
      by_cases g5 : m = 5
      · rw [if_pos g5]
        by_cases hf : f < 0
        · rw [if_pos hf]
          by_cases hk : k < e
          · rw [if_pos hk]
            by_cases q1 : 0 ≤ nmI (b k)
            · rw [if_pos q1]
              dsimp only
              simp only [List.length_cons, List.length_nil]
              exact ⟨by omega, by omega, by omega, Or.inl (by trivial)⟩
            · rw [if_neg q1]
              by_cases q2 : dgt (b k)
              · have r := rd_lt (b := b) (e := e) k hk q2
                rw [if_pos q2]
                dsimp only
                simp only [List.length_cons, List.length_nil]
                exact ⟨by omega, by omega, by omega, Or.inl (by trivial)⟩
              · rw [if_neg q2]
                by_cases q3 : o < 6 ∧ b k = 40
                · have a := txP_le n 0 (o + 1) (k + 1) f (by omega)
                  rw [if_pos q3]
                  by_cases q4 : (txP b e n 0 (o + 1) (k + 1) f).2.2 < 0 ∧ (txP b e n 0 (o + 1) (k + 1) f).2.1 < e ∧ b (txP b e n 0 (o + 1) (k + 1) f).2.1 = 41
                  · rw [if_pos q4]
                    dsimp only
                    omega
                  · rw [if_neg q4]
                    dsimp only
                    by_cases q5 : (txP b e n 0 (o + 1) (k + 1) f).2.2 < 0
                    · rw [if_pos q5]
                      omega
                    · rw [if_neg q5]
                      omega
                · rw [if_neg q3]
                  by_cases q4 : o < 6 ∧ (b k = 33 ∨ b k = 45)
                  · have a := txP_le n 5 (o + 1) (k + 1) f (by omega)
                    rw [if_pos q4]
                    dsimp only
                    rw [List.length_append]
                    simp only [List.length_cons, List.length_nil]
                    omega
                  · rw [if_neg q4]
                    dsimp only
                    simp only [List.length_nil]
                    omega
          · rw [if_neg hk]
            dsimp only
            simp only [List.length_nil]
            omega
        · rw [if_neg hf]
          exact ⟨Nat.le_refl _, h, Nat.le_of_eq (Nat.zero_add k), Or.inl rfl⟩
      · rw [if_neg g5]
        by_cases q : f < 0 ∧ k < e ∧ sgn (m - 10) (b k)
        · have a := txP_le n (m - 10 + 1) o (k + 1) f (by omega)
          rw [if_pos q]
          by_cases q2 : m = 12
          · rw [if_pos q2]
            dsimp only
            rw [List.length_append]
            simp only [List.length_cons, List.length_nil]
            omega
          · have c := txP_le n m o (txP b e n (m - 10 + 1) o (k + 1) f).2.1 (txP b e n (m - 10 + 1) o (k + 1) f).2.2 a.2.1
            rw [if_neg q2]
            dsimp only
            rw [List.length_append]
            simp only [List.length_cons]
            omega
        · rw [if_neg q]
          exact ⟨Nat.le_refl _, h, Nat.le_of_eq (Nat.zero_add k), Or.inl rfl⟩
end OW3
