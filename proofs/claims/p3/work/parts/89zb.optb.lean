/-! THE LAW: a step of what is read, of what it is worth -/
section OTB
variable {b : Nat → Int} {e : Nat} {nm : Nat → Int} {n l o k : Nat} {f a : Int}
theorem tx_lev {m : Nat} (h : m < 5) : (txP b e (n + 1) m o k f).2 = (txP b e n (10 + m) o (txP b e n (m + 1) o k f).2.1 (txP b e n (m + 1) o k f).2.2).2 := by
  have : txP b e (n + 1) m o k f = ((txP b e n (m + 1) o k f).1 ++ (txP b e n (10 + m) o (txP b e n (m + 1) o k f).2.1 (txP b e n (m + 1) o k f).2.2).1, (txP b e n (10 + m) o (txP b e n (m + 1) o k f).2.1 (txP b e n (m + 1) o k f).2.2).2) := if_pos h
  rw [this]
theorem vp_lev {m : Nat} (h : m < 5) : vP b e nm (n + 1) m o k f a = vP b e nm n (10 + m) o (txP b e n (m + 1) o k f).2.1 (txP b e n (m + 1) o k f).2.2 (vP b e nm n (m + 1) o k f 0) := if_pos h
theorem tx_lp (h : l ≤ 4) : txP b e (n + 1) (10 + l) o k f = if f < 0 ∧ k < e ∧ sgn l (b k) then (if l = 2 then ((txP b e n (l + 1) o (k + 1) f).1 ++ [-(b k)], (txP b e n (l + 1) o (k + 1) f).2) else ((txP b e n (l + 1) o (k + 1) f).1 ++ -(b k) :: (txP b e n (10 + l) o (txP b e n (l + 1) o (k + 1) f).2.1 (txP b e n (l + 1) o (k + 1) f).2.2).1, (txP b e n (10 + l) o (txP b e n (l + 1) o (k + 1) f).2.1 (txP b e n (l + 1) o (k + 1) f).2.2).2)) else ([], k, f) := by
  have : l = 0 ∨ l = 1 ∨ l = 2 ∨ l = 3 ∨ l = 4 := by omega
  rcases this with rfl | rfl | rfl | rfl | rfl <;> rfl
theorem vp_lp (h : l ≤ 4) : vP b e nm (n + 1) (10 + l) o k f a = if f < 0 ∧ k < e ∧ sgn l (b k) then (if l = 2 then jn (b k) a (vP b e nm n (l + 1) o (k + 1) f 0) else vP b e nm n (10 + l) o (txP b e n (l + 1) o (k + 1) f).2.1 (txP b e n (l + 1) o (k + 1) f).2.2 (jn (b k) a (vP b e nm n (l + 1) o (k + 1) f 0))) else a := by
  have : l = 0 ∨ l = 1 ∨ l = 2 ∨ l = 3 ∨ l = 4 := by omega
  rcases this with rfl | rfl | rfl | rfl | rfl <;> rfl
theorem tx_lp_no (h : l ≤ 4) (q : ¬ (f < 0 ∧ k < e ∧ sgn l (b k))) : (txP b e (n + 1) (10 + l) o k f).2 = (k, f) := by
  rw [tx_lp h, if_neg q]
theorem vp_lp_no (h : l ≤ 4) (q : ¬ (f < 0 ∧ k < e ∧ sgn l (b k))) : vP b e nm (n + 1) (10 + l) o k f a = a := by
  rw [vp_lp h, if_neg q]
theorem tx_lp_yes (h : l ≤ 4) (h2 : l ≠ 2) (q : f < 0 ∧ k < e ∧ sgn l (b k)) : (txP b e (n + 1) (10 + l) o k f).2 = (txP b e n (10 + l) o (txP b e n (l + 1) o (k + 1) f).2.1 (txP b e n (l + 1) o (k + 1) f).2.2).2 := by
  rw [tx_lp h, if_pos q, if_neg h2]
theorem vp_lp_yes (h : l ≤ 4) (h2 : l ≠ 2) (q : f < 0 ∧ k < e ∧ sgn l (b k)) : vP b e nm (n + 1) (10 + l) o k f a = vP b e nm n (10 + l) o (txP b e n (l + 1) o (k + 1) f).2.1 (txP b e n (l + 1) o (k + 1) f).2.2 (jn (b k) a (vP b e nm n (l + 1) o (k + 1) f 0)) := by
  rw [vp_lp h, if_pos q, if_neg h2]
theorem tx_cmp (q : f < 0 ∧ k < e ∧ sgn 2 (b k)) : (txP b e (n + 1) 12 o k f).2 = (txP b e n 3 o (k + 1) f).2 := by
  rw [show (12 : Nat) = 10 + 2 from rfl, tx_lp (by omega), if_pos q, if_pos rfl]
theorem vp_cmp (q : f < 0 ∧ k < e ∧ sgn 2 (b k)) : vP b e nm (n + 1) 12 o k f a = jn (b k) a (vP b e nm n 3 o (k + 1) f 0) := by
  rw [show (12 : Nat) = 10 + 2 from rfl, vp_lp (by omega), if_pos q, if_pos rfl]
end OTB
