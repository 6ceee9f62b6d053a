/-! THE LAW as the reference reads it: all levels -/
section OTC
variable {L : Nat} {xs : Nat → Int} {d : Nat} {v : Nat → Nat → Int} {b : Nat → Int} {e : Nat} {nm : Nat → Int}
def mthR (m : Nat) : Nat := if m = 0 then nX12_either else if m = 1 then nX12_both else if m = 2 then nX12_compared else if m = 3 then nX12_sums else if m = 4 then nX12_product else nX12_one
/-- the loops -/
noncomputable def lpR (L : Nat) (xs : Nat → Int) (D l : Nat) (a c : Int) (u2 u3 : pm_V) (σ : pm_S) : Option pm_R :=
  if l = 0 then qG L xs D CX12_either 5 [(2, 63), (0, a), u2] [] σ else if l = 1 then qG L xs D CX12_both 5 [(2, 63), (0, a), u2] [] σ else if l = 2 then qG L xs D CX12_compared 4 [(2, 63), (9, 0), (9, 0), (9, 0)] [(0, a)] σ else if l = 3 then qG L xs D CX12_sums 5 [(2, 63), (0, a), u2, u3] [] σ else qG L xs D CX12_product 10 [(2, 63), (0, a), (0, c), u3] [] σ
def dpR (d o m : Nat) : Nat := d + (6 * (6 - o) + (6 - m) + 3)
def rdA (L : Nat) (xs : Nat → Int) (d : Nat) (v : Nat → Nat → Int) (b : Nat → Int) (e : Nat) (nm : Nat → Int) (n : Nat) : Prop :=
  ∀ (m o k : Nat) (f : Int), m ≤ 5 → o ≤ 6 → k ≤ e → f < 0 → 20 * (120 - k) + rkT m < n → ∃ o' : Int, ((txP b e n m o k f).2.2 < 0 → o' = o) ∧ qE L xs (dpR d o m) (mthR m) [(2, 63)] (qS (rdS v k f o)) = some (some (0, vP b e nm n m o k f 0), qS (rdS v (txP b e n m o k f).2.1 (txP b e n m o k f).2.2 o'))
def rdC (L : Nat) (xs : Nat → Int) (d : Nat) (v : Nat → Nat → Int) (b : Nat → Int) (e : Nat) (nm : Nat → Int) (n : Nat) : Prop :=
  ∀ (l o k : Nat) (f a z : Int) (u2 u3 : pm_V), l ≤ 4 → o ≤ 6 → k ≤ e → (f < 0 → z = o) → 20 * (120 - k) + rkT (10 + l) < n → ∃ o' : Int, ((txP b e n (10 + l) o k f).2.2 < 0 → o' = o) ∧ lpR L xs (dpR d o (l + 1)) l a (byt b e k) u2 u3 (qS (rdS v k f z)) = some (some (0, vP b e nm n (10 + l) o k f a), qS (rdS v (txP b e n (10 + l) o k f).2.1 (txP b e n (10 + l) o k f).2.2 o'))
theorem rk_lev {m : Nat} (h : m < 5) : rkT m = rkT (m + 1) + 2 ∧ rkT m = rkT (10 + m) + 1 := by
  have : m = 0 ∨ m = 1 ∨ m = 2 ∨ m = 3 ∨ m = 4 := by omega
  rcases this with rfl | rfl | rfl | rfl | rfl <;> exact ⟨rfl, rfl⟩
theorem dp_lev {d o m : Nat} (h : m < 5) : dpR d o m = dpR d o (m + 1) + 1 := by
  unfold dpR
  omega
/-- a level: the next one, then its loop -/
theorem rd_level (h : rdB v b e) {n m o k : Nat} {f : Int} (hA : rdA L xs d v b e nm n) (hC : rdC L xs d v b e nm n) (hm : m < 5) (ho : o ≤ 6) (hk : k ≤ e) (hf : f < 0) (hn : 20 * (120 - k) + rkT m < n + 1) : ∃ o' : Int, ((txP b e (n + 1) m o k f).2.2 < 0 → o' = o) ∧ qE L xs (dpR d o m) (mthR m) [(2, 63)] (qS (rdS v k f o)) = some (some (0, vP b e nm (n + 1) m o k f 0), qS (rdS v (txP b e (n + 1) m o k f).2.1 (txP b e (n + 1) m o k f).2.2 o')) := by
  have rk := rk_lev hm
  obtain ⟨o1, p1, p2⟩ := hA (m + 1) o k f (by omega) ho hk hf (by omega)
  have le := txP_le (b := b) (e := e) n (m + 1) o k f hk
  obtain ⟨o2, q1, q2⟩ := hC m o (txP b e n (m + 1) o k f).2.1 (txP b e n (m + 1) o k f).2.2 (vP b e nm n (m + 1) o k f 0) o1 (9, 0) (9, 0) (by omega) ho le.2.1 p1 (by omega)
  refine ⟨o2, ?_, ?_⟩
  · rw [tx_lev hm]
    exact q1
  · rw [tx_lev hm, vp_lev hm, ← q2, dp_lev hm]
    have : m = 0 ∨ m = 1 ∨ m = 2 ∨ m = 3 ∨ m = 4 := by omega
    rcases this with rfl | rfl | rfl | rfl | rfl
    · show qE L xs (dpR d o 1 + 1) nX12_either _ _ = qG L xs (dpR d o 1) CX12_either 5 _ _ _
      rw [e_X12_either, b_X12_either_0, show qE L xs (dpR d o 1) nX12_both [(2, 63)] (qS (rdS v k f o)) = _ from p2, qB_some, psh_some, b_X12_either_4]
    · show qE L xs (dpR d o 2 + 1) nX12_both _ _ = qG L xs (dpR d o 2) CX12_both 5 _ _ _
      rw [e_X12_both, b_X12_both_0, show qE L xs (dpR d o 2) nX12_compared [(2, 63)] (qS (rdS v k f o)) = _ from p2, qB_some, psh_some, b_X12_both_4]
    · show qE L xs (dpR d o 3 + 1) nX12_compared _ _ = qG L xs (dpR d o 3) CX12_compared 4 _ _ _
      rw [e_X12_compared, b_X12_compared_0, show qE L xs (dpR d o 3) nX12_sums [(2, 63)] (qS (rdS v k f o)) = _ from p2, qB_some, psh_some]
    · show qE L xs (dpR d o 4 + 1) nX12_sums _ _ = qG L xs (dpR d o 4) CX12_sums 5 _ _ _
      rw [e_X12_sums, b_X12_sums_0, show qE L xs (dpR d o 4) nX12_product [(2, 63)] (qS (rdS v k f o)) = _ from p2, qB_some, psh_some, b_X12_sums_4]
    · show qE L xs (dpR d o 5 + 1) nX12_product _ _ = qG L xs (dpR d o 5) CX12_product 10 _ _ _
      rw [e_X12_product, b_X12_product_0, show qE L xs (dpR d o 5) nX12_one [(2, 63)] (qS (rdS v k f o)) = _ from p2, qB_some, psh_some, b_X12_product_4, show dpR d o 5 = (d + (6 * (6 - o) + 3)) + 1 by unfold dpR; omega, mr_byteAt h, qB_some, psh_some, b_X12_product_9]
end OTC
