/-! WAYS: spreading finds the minutes from a place to each -/
section SP
variable {L : Nat} {xs : Nat → Int} {d : Nat} {v : Nat → Nat → Int}
/-- the steps laid: so many, between places that are there, of 1 to 99 minutes -/
def WOK (v : Nat → Nat → Int) (S P : Nat) : Prop := v 29 8 = (S : Int) ∧ S ≤ 172 ∧ v 29 9 = (P : Int) ∧ P ≤ 60 ∧ ∀ i, i < S → (0 ≤ v 30 i ∧ v 30 i < (P : Int)) ∧ (0 ≤ v 31 i ∧ v 31 i < (P : Int)) ∧ 1 ≤ v 32 i ∧ v 32 i ≤ 99
/-- the steps that count without a crossing -/
def EC (v : Nat → Nat → Int) (S : Nat) (x : Int) (a b : Nat) (k : Int) : Prop := ∃ i, i < S ∧ v 30 i = (a : Int) ∧ v 31 i = (b : Int) ∧ v 32 i = k ∧ (x = -1 ∨ v 33 i ≠ x)
theorem EC_ok {S P : Nat} {x : Int} (h : WOK v S P) : Okg (EC v S x) P 99 := fun a b k he => by
  obtain ⟨i, hi, h1, h2, h3, -⟩ := he
  obtain ⟨g1, g2, g3, g4⟩ := h.2.2.2.2 i hi
  omega
theorem c_isThere {S P : Nat} (h : WOK v S P) (a : Int) : qE L xs (d + 1) nX10_isThere [(2, 29), (0, a)] (qS v) = some (some (0, zb (0 ≤ a ∧ a < (P : Int))), qS v) := by
  have h9 := h.2.2.1
  simp (disch := omega) only [e_X10_isThere, b_X10_isThere_0, b_X10_isThere_4, b_X10_isThere_12, b_X10_isThere_16, b_X10_isThere_17, h9, qB_some, psh_some, psh_none, and_true, true_and, and_false, false_and, and_self, or_true, true_or, or_false, false_or, not_true_eq_false, not_false_eq_true, ↓reduceIte, Int.reduceEq, Int.reduceLT, Int.reduceLE, Int.reduceToNat, Nat.reduceEqDiff, Nat.reduceAdd]
  by_cases h1 : a < 0
  · rw [if_pos h1, zb_f (by omega)]
  · by_cases h2 : a < (P : Int)
    · rw [if_neg h1, if_pos h2, zb_t (by omega)]
    · rw [if_neg h1, if_neg h2, zb_f (by omega)]
/-- the minutes so far: 0 at the start, a walk's where below NONE -/
def Jn (E : Nat → Nat → Int → Prop) (P s : Nat) (m : Nat → Int) : Prop := m s = 0 ∧ (∀ p, p < P → 0 ≤ m p ∧ m p ≤ 9999) ∧ ∀ p, p < P → m p < 9999 → ∃ n, Wk E n s p (m p)
/-- within a sweep, from m0, after i steps -/
def Sw (v : Nat → Nat → Int) (S P s : Nat) (x : Int) (m0 m : Nat → Int) (near : Int) (i : Nat) : Prop := Jn (EC v S x) P s m ∧ (∀ p, m p ≤ m0 p) ∧ (∀ t, t < i → (x = -1 ∨ v 33 t ≠ x) → m (v 31 t).toNat ≤ m0 (v 30 t).toNat + v 32 t) ∧ (near = 0 ∨ near = 1) ∧ (near = 0 → m = m0)
theorem sw_step {S P s : Nat} {x : Int} {m0 m : Nat → Int} {near : Int} {i : Nat} (h : WOK v S P) (hs : s < P) (hi : i < S) (hw : Sw v S P s x m0 m near i) (hx : x = -1 ∨ v 33 i ≠ x) (hl : m (v 30 i).toNat + v 32 i < m (v 31 i).toNat) : Sw v S P s x m0 (fun p => if p = (v 31 i).toNat then m (v 30 i).toNat + v 32 i else m p) 1 (i + 1) := by
  obtain ⟨⟨j1, j2, j3⟩, w2, w3, w4, w5⟩ := hw
  obtain ⟨g1, g2, g3, g4⟩ := h.2.2.2.2 i hi
  have k1 := j2 (v 30 i).toNat (by omega)
  have k2 := j2 (v 31 i).toNat (by omega)
  have k3 : (v 31 i).toNat ≠ s := fun q => by rw [q, j1] at hl; omega
  refine ⟨⟨?_, fun p hp => ?_, fun p hp hm => ?_⟩, fun p => ?_, fun t ht htx => ?_, Or.inr rfl, fun q => absurd q (by decide)⟩
  · dsimp only
    rw [if_neg (fun q => k3 q.symm)]
    exact j1
  · dsimp only
    have := j2 p hp
    split
    · omega
    · omega
  · dsimp only at hm ⊢
    by_cases hq : p = (v 31 i).toNat
    · rw [if_pos hq]
      obtain ⟨n, hn⟩ := j3 (v 30 i).toNat (by omega) (by omega)
      refine ⟨n + 1, ?_⟩
      rw [hq]
      exact Wk_snoc hn ⟨i, hi, by omega, by omega, rfl, hx⟩
    · rw [if_neg hq] at hm ⊢
      exact j3 p hp hm
  · dsimp only
    have := w2 p
    have h2 := w2 (v 31 i).toNat
    by_cases hq : p = (v 31 i).toNat
    · rw [if_pos hq, hq]; omega
    · rw [if_neg hq]; exact this
  · dsimp only
    have h2 := w2 (v 30 i).toNat
    by_cases ht2 : t = i
    · subst ht2
      rw [if_pos rfl]
      omega
    · have h3 := w3 t (by omega) htx
      by_cases hq : (v 31 t).toNat = (v 31 i).toNat
      · rw [if_pos hq]
        rw [hq] at h3
        omega
      · rw [if_neg hq]
        exact h3
theorem sw_skip {S P s : Nat} {x : Int} {m0 m : Nat → Int} {near : Int} {i : Nat} (hw : Sw v S P s x m0 m near i) (hx : ¬ (x = -1 ∨ v 33 i ≠ x) ∨ ¬ m (v 30 i).toNat + v 32 i < m (v 31 i).toNat) : Sw v S P s x m0 m near (i + 1) := by
  obtain ⟨j, w2, w3, w4, w5⟩ := hw
  refine ⟨j, w2, fun t ht htx => ?_, w4, w5⟩
  by_cases ht2 : t = i
  · subst ht2
    rcases hx with hx | hx
    · exact absurd htx hx
    · have h2 := w2 (v 30 t).toNat
      omega
  · exact w3 t (by omega) htx
end SP
