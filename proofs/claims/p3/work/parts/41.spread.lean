/-! WAYS: spreading finds the minutes from a place to each -/
section SP
variable {L : Nat} {xs : Nat → Int} {d : Nat} {v : Nat → Nat → Int}
/-- the steps laid: so many, between places that are there, of 1 to 99 minutes -/
def WOK (v : Nat → Nat → Int) (S P : Nat) : Prop := v 29 8 = (S : Int) ∧ S ≤ 172 ∧ v 29 9 = (P : Int) ∧ P ≤ 60 ∧ ∀ i, i < S → (0 ≤ v 30 i ∧ v 30 i < (P : Int)) ∧ (0 ≤ v 31 i ∧ v 31 i < (P : Int)) ∧ 1 ≤ v 32 i ∧ v 32 i ≤ 99
/-- the steps that count without a crossing -/
def EC (v : Nat → Nat → Int) (S : Nat) (x : Int) (a b : Nat) (k : Int) : Prop := ∃ i, i < S ∧ v 30 i = (a : Int) ∧ v 31 i = (b : Int) ∧ v 32 i = k ∧ (x = -1 ∨ v 33 i ≠ x)
theorem EC_ok {S P : Nat} {x : Int} (h : WOK v S P) : Okg (EC v S x) P 99 := fun a b k he => by
  obtain ⟨i, hi, h1, h2, h3, -⟩ := he
  obtain ⟨g1, g2, g3, g4⟩ := h.2.2.2.2 i hi
  omega
theorem c_isThere {S P : Nat} (h : WOK v S P) (a : Int) : qE L xs (d + 1) nX10_isThere [(2, 29), (0, a)] (qS v) = some (some (0, zb (0 ≤ a ∧ a < (P : Int))), qS v) := by
  have h9 := h.2.2.1
  simp (disch := omega) only [e_X10_isThere, b_X10_isThere_0, b_X10_isThere_4, b_X10_isThere_12, b_X10_isThere_16, b_X10_isThere_17, h9, qB_some, psh_some, psh_none, and_true, true_and, and_false, false_and, and_self, or_true, true_or, or_false, false_or, not_true_eq_false, not_false_eq_true, ↓reduceIte, Int.reduceEq, Int.reduceLT, Int.reduceLE, Int.reduceToNat, Nat.reduceEqDiff, Nat.reduceAdd]
  by_cases h1 : a < 0
  · rw [if_pos h1, zb_f (by omega)]
  · by_cases h2 : a < (P : Int)
    · rw [if_neg h1, if_pos h2, zb_t (by omega)]
    · rw [if_neg h1, if_neg h2, zb_f (by omega)]
/-- the minutes so far: 0 at the start, a walk's where below NONE -/
def Jn (E : Nat → Nat → Int → Prop) (P s : Nat) (m : Nat → Int) : Prop := m s = 0 ∧ (∀ p, p < P → 0 ≤ m p ∧ m p ≤ 9999) ∧ ∀ p, p < P → m p < 9999 → ∃ n, Wk E n s p (m p)
/-- within a sweep, from m0, after i steps -/
def Sw (v : Nat → Nat → Int) (S P s : Nat) (x : Int) (m0 m : Nat → Int) (near : Int) (i : Nat) : Prop := Jn (EC v S x) P s m ∧ (∀ p, m p ≤ m0 p) ∧ (∀ t, t < i → (x = -1 ∨ v 33 t ≠ x) → m (v 31 t).toNat ≤ m0 (v 30 t).toNat + v 32 t) ∧ (near = 0 ∨ near = 1) ∧ (near = 0 → m = m0)
theorem sw_step {S P s : Nat} {x : Int} {m0 m : Nat → Int} {near : Int} {i : Nat} (h : WOK v S P) (hs : s < P) (hi : i < S) (hw : Sw v S P s x m0 m near i) (hx : x = -1 ∨ v 33 i ≠ x) (hl : m (v 30 i).toNat + v 32 i < m (v 31 i).toNat) : Sw v S P s x m0 (fun p => if p = (v 31 i).toNat then m (v 30 i).toNat + v 32 i else m p) 1 (i + 1) := by
  obtain ⟨⟨j1, j2, j3⟩, w2, w3, w4, w5⟩ := hw
  obtain ⟨g1, g2, g3, g4⟩ := h.2.2.2.2 i hi
  have k1 := j2 (v 30 i).toNat (by omega)
  have k2 := j2 (v 31 i).toNat (by omega)
  have k3 : (v 31 i).toNat ≠ s := fun q => by rw [q, j1] at hl; omega
  refine ⟨⟨?_, fun p hp => ?_, fun p hp hm => ?_⟩, fun p => ?_, fun t ht htx => ?_, Or.inr rfl, fun q => absurd q (by decide)⟩
  · dsimp only
    rw [if_neg (fun q => k3 q.symm)]
    exact j1
  · dsimp only
    have := j2 p hp
    split
    · omega
    · omega
  · dsimp only at hm ⊢
    by_cases hq : p = (v 31 i).toNat
    · rw [if_pos hq]
      obtain ⟨n, hn⟩ := j3 (v 30 i).toNat (by omega) (by omega)
      refine ⟨n + 1, ?_⟩
      rw [hq]
      exact Wk_snoc hn ⟨i, hi, by omega, by omega, rfl, hx⟩
    · rw [if_neg hq] at hm ⊢
      exact j3 p hp hm
  · dsimp only
    have := w2 p
    have h2 := w2 (v 31 i).toNat
    by_cases hq : p = (v 31 i).toNat
    · rw [if_pos hq, hq]; omega
    · rw [if_neg hq]; exact this
  · dsimp only
    have h2 := w2 (v 30 i).toNat
    by_cases ht2 : t = i
    · subst ht2
      rw [if_pos rfl]
      omega
    · have h3 := w3 t (by omega) htx
      by_cases hq : (v 31 t).toNat = (v 31 i).toNat
      · rw [if_pos hq]
        rw [hq] at h3
        omega
      · rw [if_neg hq]
        exact h3
theorem sw_skip {S P s : Nat} {x : Int} {m0 m : Nat → Int} {near : Int} {i : Nat} (hw : Sw v S P s x m0 m near i) (hx : ¬ (x = -1 ∨ v 33 i ≠ x) ∨ ¬ m (v 30 i).toNat + v 32 i < m (v 31 i).toNat) : Sw v S P s x m0 m near (i + 1) := by
  obtain ⟨j, w2, w3, w4, w5⟩ := hw
  refine ⟨j, w2, fun t ht htx => ?_, w4, w5⟩
  by_cases ht2 : t = i
  · subst ht2
    rcases hx with hx | hx
    · exact absurd htx hx
    · have h2 := w2 (v 30 t).toNat
      omega
  · exact w3 t (by omega) htx
theorem up_fn (c k : Nat) (z : Int) : pm_up v c k z c = fun p => if p = k then z else v c p := by
  funext p
  unfold pm_up
  by_cases h : p = k
  · rw [if_pos ⟨rfl, h⟩, if_pos h]
  · rw [if_neg (fun q => h q.2), if_neg h]
theorem up_cell {c k a : Nat} {z : Int} (h : a ≠ c) : pm_up v c k z a = v a := by
  funext p
  exact if_neg (fun q => h q.1)
theorem WOK_cg {v w : Nat → Nat → Int} {S P : Nat} (hc : ∀ c, c ≠ 34 → w c = v c) (h : WOK v S P) : WOK w S P := by
  unfold WOK
  rw [hc 29 (by decide), hc 30 (by decide), hc 31 (by decide), hc 32 (by decide)]
  exact h
theorem EC_cg {v w : Nat → Nat → Int} {S : Nat} {x : Int} (hc : ∀ c, c ≠ 34 → w c = v c) : EC w S x = EC v S x := by
  unfold EC
  rw [hc 30 (by decide), hc 31 (by decide), hc 32 (by decide), hc 33 (by decide)]
theorem Sw_cg {v w : Nat → Nat → Int} {S P s : Nat} {x : Int} {m0 m : Nat → Int} {near : Int} {i : Nat} (hc : ∀ c, c ≠ 34 → w c = v c) (h : Sw v S P s x m0 m near i) : Sw w S P s x m0 m near i := by
  unfold Sw
  rw [EC_cg hc, hc 30 (by decide), hc 31 (by decide), hc 32 (by decide), hc 33 (by decide)]
  exact h
theorem lp_sweep {S P s : Nat} {x : Int} {m0 : Nat → Int} (hs : s < P) (k : Int) : ∀ (n i : Nat) (v : Nat → Nat → Int) (near : Int) (u6 u7 : pm_V), i + n = S → WOK v S P → Sw v S P s x m0 (v 34) near i → ∃ v' near' w6 w7, qG L xs d CX10_spread 26 [(2, 29), (0, (s : Int)), (0, x), (0, near), (0, k), (0, (i : Int)), u6, u7] [] (qS v) = qG L xs d CX10_spread 124 [(2, 29), (0, (s : Int)), (0, x), (0, near'), (0, k), (0, (S : Int)), w6, w7] [] (qS v') ∧ (∀ c, c ≠ 34 → v' c = v c) ∧ Sw v' S P s x m0 (v' 34) near' S
  | 0, i, v, near, u6, u7, hi, h, hw => by
    have hS : i = S := by omega
    subst hS
    refine ⟨v, near, u6, u7, ?_, fun _ _ => rfl, hw⟩
    rw [b_X10_spread_26, h.1, if_neg (by omega)]
  | n + 1, i, v, near, u6, u7, hi, h, hw => by
    obtain ⟨g1, g2, g3, g4⟩ := h.2.2.2.2 i (by omega)
    have hS := h.1
    have hS2 := h.2.1
    have hP := h.2.2.2.1
    have k1 := hw.1.2.1 (v 30 i).toNat (by omega)
    have k2 := hw.1.2.1 (v 31 i).toNat (by omega)
    have a1 : qG L xs d CX10_spread 26 [(2, 29), (0, (s : Int)), (0, x), (0, near), (0, k), (0, (i : Int)), u6, u7] [] (qS v) = qG L xs d CX10_spread 78 [(2, 29), (0, (s : Int)), (0, x), (0, near), (0, k), (0, (i : Int)), (0, v 34 (v 30 i).toNat + v 32 i), u7] [(0, zb (x = -1 ∨ v 33 i ≠ x))] (qS v) := by
      by_cases hx : x = -1
      · rw [zb_t (Or.inl hx)]
        simp (disch := omega) only [b_X10_spread_26, b_X10_spread_35, b_X10_spread_46, b_X10_spread_47, b_X10_spread_54, b_X10_spread_73, if_pos, w32_id, Int.toNat_natCast]
      · by_cases hy : v 33 i = x
        · rw [zb_f (by omega)]
          simp (disch := omega) only [b_X10_spread_26, b_X10_spread_35, b_X10_spread_46, b_X10_spread_47, b_X10_spread_54, b_X10_spread_62, b_X10_spread_69, b_X10_spread_77, if_pos, if_neg, w32_id, Int.toNat_natCast]
        · rw [zb_t (by omega)]
          simp (disch := omega) only [b_X10_spread_26, b_X10_spread_35, b_X10_spread_46, b_X10_spread_47, b_X10_spread_54, b_X10_spread_62, b_X10_spread_69, b_X10_spread_73, if_pos, if_neg, w32_id, Int.toNat_natCast]
    by_cases hx : x = -1 ∨ v 33 i ≠ x
    · rw [zb_t hx] at a1
      have a2 : qG L xs d CX10_spread 26 [(2, 29), (0, (s : Int)), (0, x), (0, near), (0, k), (0, (i : Int)), u6, u7] [] (qS v) = qG L xs d CX10_spread 99 [(2, 29), (0, (s : Int)), (0, x), (0, near), (0, k), (0, (i : Int)), (0, v 34 (v 30 i).toNat + v 32 i), (0, 1)] [(0, v 34 (v 31 i).toNat), (0, v 34 (v 30 i).toNat + v 32 i)] (qS v) := by
        rw [a1]
        simp (disch := omega) only [b_X10_spread_78, b_X10_spread_85, b_X10_spread_98, if_pos, if_neg, Int.toNat_natCast]
      by_cases hl : v 34 (v 30 i).toNat + v 32 i < v 34 (v 31 i).toNat
      · have hu : ∀ c, c ≠ 34 → pm_up v 34 (v 31 i).toNat (v 34 (v 30 i).toNat + v 32 i) c = v c := fun c hc => up_cell hc
        have hw2 := sw_step h hs (by omega) hw hx hl
        rw [← up_fn 34 (v 31 i).toNat (v 34 (v 30 i).toNat + v 32 i)] at hw2
        obtain ⟨v', near', w6, w7, e1, e2, e3⟩ := lp_sweep hs k n (i + 1) (pm_up v 34 (v 31 i).toNat (v 34 (v 30 i).toNat + v 32 i)) 1 (0, v 34 (v 30 i).toNat + v 32 i) (0, 1) (by omega) (WOK_cg hu h) (Sw_cg hu hw2)
        refine ⟨v', near', w6, w7, ?_, fun c hc => (e2 c hc).trans (hu c hc), e3⟩
        rw [show ((i + 1 : Nat) : Int) = (i : Int) + 1 by omega] at e1
        refine Eq.trans ?_ e1
        rw [a2]
        conv => lhs; simp (disch := omega) only [b_X10_spread_99, b_X10_spread_102, b_X10_spread_113, b_X10_spread_116, if_pos, Int.toNat_natCast]
        rw [b_X10_spread_118, w32_id (by omega) (by omega)]
      · obtain ⟨v', near', w6, w7, e1, e2, e3⟩ := lp_sweep hs k n (i + 1) v near (0, v 34 (v 30 i).toNat + v 32 i) (0, 1) (by omega) h (sw_skip hw (Or.inr hl))
        refine ⟨v', near', w6, w7, ?_, e2, e3⟩
        rw [show ((i + 1 : Nat) : Int) = (i : Int) + 1 by omega] at e1
        refine Eq.trans ?_ e1
        rw [a2, b_X10_spread_99, if_neg hl, b_X10_spread_118, w32_id (by omega) (by omega)]
    · rw [zb_f hx] at a1
      obtain ⟨v', near', w6, w7, e1, e2, e3⟩ := lp_sweep hs k n (i + 1) v near (0, v 34 (v 30 i).toNat + v 32 i) (0, 0) (by omega) h (sw_skip hw (Or.inl hx))
      refine ⟨v', near', w6, w7, ?_, e2, e3⟩
      rw [show ((i + 1 : Nat) : Int) = (i : Int) + 1 by omega] at e1
      refine Eq.trans ?_ e1
      rw [a1, b_X10_spread_78, if_pos rfl, b_X10_spread_118, w32_id (by omega) (by omega)]
end SP
