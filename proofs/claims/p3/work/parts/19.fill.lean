/-! Arrays.fill over any heap (written by wip/p1/19.fill.py) -/
def pm_fl (μ : Nat → Nat → Int) (c lo hi : Nat) (z : Int) : Nat → Nat → Int := fun a i => if a = c ∧ lo ≤ i ∧ i < hi then z else μ a i
theorem pm_alen_own {X : pm_X} {σ : pm_S} {i e n pc : Nat} {ls r : List pm_V} (hc : i < 1000) (hs : pm_get σ.1 i = some (1, e, n)) : pm_alen X pc ls ((2, .ofNat i) :: r) σ = pm_nx (pc + 1) ls ((0, (n : Int)) :: r) σ := by
  have h : pm_arr X σ i = some (e, n, σ.2 i) := by
    unfold pm_arr
    rw [if_neg (by omega), hs]
    rfl
  show (match pm_arr X σ i with
    | some (_, n, _) => pm_nx (pc + 1) ls ((0, (n : Int)) :: r) σ
    | none => none) = _
  rw [h]
theorem pm_astore_own {σ : pm_S} {i e t n pc : Nat} {ls r : List pm_V} {k v : Int} (hs : pm_get σ.1 i = some (1, e, n)) (h2 : e = 2 → v = 0 ∨ v = 1) (h0 : 0 ≤ k) (hn : k < (n : Int)) : pm_astore e t pc ls ((t, v) :: (0, k) :: (2, .ofNat i) :: r) σ = pm_nx (pc + 1) ls r (σ.1, pm_up σ.2 i k.toNat v) := by
  show (match pm_get σ.1 i with
    | some (1, e0, n) => if e0 = e ∧ t = t ∧ (e = 2 → v = 0 ∨ v = 1) then (if 0 ≤ k ∧ k < (n : Int) then pm_nx (pc + 1) ls r (σ.1, pm_up σ.2 i k.toNat v) else none) else none
    | _ => none) = _
  rw [hs]
  exact (if_pos ⟨rfl, rfl, h2⟩).trans (if_pos ⟨h0, hn⟩)
section FI
variable {L : Nat} {xs : Nat → Int} {d : Nat}
theorem fi_0 {σ : pm_S} {c n : Nat} {z : Int} (hc : c < 1000) (hs : pm_get σ.1 c = some (1, 0, n)) : qG L xs d CJ7_fill_53178 0 [(2, .ofNat c), (0, z), (9, 0), (9, 0)] [] σ = qG L xs d CJ7_fill_53178 5 [(2, .ofNat c), (0, z), (0, 0), (0, (n : Int))] [] σ := by
  refine (show qG L xs d CJ7_fill_53178 0 [(2, .ofNat c), (0, z), (9, 0), (9, 0)] [] σ = qG L xs d CJ7_fill_53178 3 [(2, .ofNat c), (0, z), (0, 0), (9, 0)] [(2, .ofNat c)] σ from qG_stk 3 _ _ _ _).trans ?_
  rw [qG_1 (ins := .arraylength) (x := (0, 0, 0, 0)) rfl]
  have h : pm_exec (pm_E pm_T (pm_X0 L xs) pm_fc d) (pm_X0 L xs) pm_fc .arraylength (0, 0, 0, 0) 3 [(2, .ofNat c), (0, z), (0, 0), (9, 0)] [(2, .ofNat c)] σ = pm_nx 4 [(2, .ofNat c), (0, z), (0, 0), (9, 0)] [(0, (n : Int))] σ := by
    exact pm_alen_own hc hs
  rw [h]
  exact qG_stk 1 _ _ _ _
theorem fi_5 {σ : pm_S} {c : Nat} {z x y : Int} : qG L xs d CJ7_fill_53178 5 [(2, .ofNat c), (0, z), (0, x), (0, y)] [] σ = if x < y then qG L xs d CJ7_fill_53178 10 [(2, .ofNat c), (0, z), (0, x), (0, y)] [] σ else qG L xs d CJ7_fill_53178 20 [(2, .ofNat c), (0, z), (0, x), (0, y)] [] σ := (qG_stk 3 _ _ _ _).trans qG_if
theorem fi_a {σ : pm_S} {c n : Nat} {z x y : Int} (hs : pm_get σ.1 c = some (1, 0, n)) (h0 : 0 ≤ x) (hn : x < (n : Int)) : qG L xs d CJ7_fill_53178 10 [(2, .ofNat c), (0, z), (0, x), (0, y)] [] σ = qG L xs d CJ7_fill_53178 5 [(2, .ofNat c), (0, z), (0, w32 (x + 1)), (0, y)] [] (σ.1, pm_up σ.2 c x.toNat z) := by
  refine (show qG L xs d CJ7_fill_53178 10 [(2, .ofNat c), (0, z), (0, x), (0, y)] [] σ = qG L xs d CJ7_fill_53178 13 [(2, .ofNat c), (0, z), (0, x), (0, y)] [(0, z), (0, x), (2, .ofNat c)] σ from qG_stk 3 _ _ _ _).trans ?_
  have h : pm_exec (pm_E pm_T (pm_X0 L xs) pm_fc d) (pm_X0 L xs) pm_fc .iastore (0, 0, 0, 0) 13 [(2, .ofNat c), (0, z), (0, x), (0, y)] [(0, z), (0, x), (2, .ofNat c)] σ = pm_nx (13 + 1) [(2, .ofNat c), (0, z), (0, x), (0, y)] [] (σ.1, pm_up σ.2 c x.toNat z) := by
    exact pm_astore_own hs (fun q => absurd q (by decide)) h0 hn
  rw [qG_1 (ins := .iastore) (x := (0, 0, 0, 0)) rfl, h]
  exact qG_stk 2 _ _ _ _
theorem fi_z {σ : pm_S} {c : Nat} {z x y : Int} : qG L xs d CJ7_fill_53178 20 [(2, .ofNat c), (0, z), (0, x), (0, y)] [] σ = some (none, σ) := qG_stk 1 _ _ _ _
theorem fi_lp {h : List (Nat × Nat × Nat)} {c n : Nat} {z : Int} (hs : pm_get h c = some (1, 0, n)) (hn : n < 2147483648) : ∀ (k j : Nat) (μ : Nat → Nat → Int), j + k = n → qG L xs d CJ7_fill_53178 5 [(2, .ofNat c), (0, z), (0, (j : Int)), (0, (n : Int))] [] (h, μ) = some (none, (h, pm_fl μ c j n z))
  | 0, j, μ, hj => by
    rw [fi_5, if_neg (by omega), fi_z]
    have : pm_fl μ c j n z = μ := by
      funext a i
      exact if_neg (by omega)
    rw [this]
  | k + 1, j, μ, hj => by
    rw [fi_5, if_pos (by omega), fi_a hs (by omega) (by omega), w32_id (by omega) (by omega)]
    have h1 := fi_lp (z := z) hs hn k (j + 1) (pm_up μ c (j : Int).toNat z) (by omega)
    rw [show ((j + 1 : Nat) : Int) = (j : Int) + 1 by omega] at h1
    refine h1.trans ?_
    have : pm_fl (pm_up μ c (j : Int).toNat z) c (j + 1) n z = pm_fl μ c j n z := by
      funext a i
      unfold pm_fl pm_up
      by_cases h1 : a = c ∧ j + 1 ≤ i ∧ i < n
      · rw [if_pos h1, if_pos ⟨h1.1, by omega, h1.2.2⟩]
      · rw [if_neg h1]
        by_cases h2 : a = c ∧ i = (j : Int).toNat
        · rw [if_pos h2, if_pos ⟨h2.1, by omega, by omega⟩]
        · rw [if_neg h2, if_neg (fun q => ?_)]
          by_cases h3 : i = j
          · exact h2 ⟨q.1, by omega⟩
          · exact h1 ⟨q.1, by omega, q.2.2⟩
    rw [this]
theorem fi_all {h : List (Nat × Nat × Nat)} {μ : Nat → Nat → Int} {c n : Nat} {z : Int} (hc : c < 1000) (hs : pm_get h c = some (1, 0, n)) (hn : n < 2147483648) : qE L xs (d + 1) nJ7_fill_53178 [(2, .ofNat c), (0, z)] (h, μ) = some (none, (h, pm_fl μ c 0 n z)) := by
  show qG L xs d CJ7_fill_53178 0 [(2, .ofNat c), (0, z), (9, 0), (9, 0)] [] (h, μ) = _
  rw [fi_0 hc hs]
  exact fi_lp hs hn n 0 μ (by omega)
theorem fj_0 {σ : pm_S} {c n : Nat} {z : Int} (hc : c < 1000) (hs : pm_get σ.1 c = some (1, 1, n)) : qG L xs d CJ7_fill_d0a16 0 [(2, .ofNat c), (1, z), (9, 0), (9, 0), (9, 0)] [] σ = qG L xs d CJ7_fill_d0a16 6 [(2, .ofNat c), (1, z), (9, 0), (0, 0), (0, (n : Int))] [] σ := by
  refine (show qG L xs d CJ7_fill_d0a16 0 [(2, .ofNat c), (1, z), (9, 0), (9, 0), (9, 0)] [] σ = qG L xs d CJ7_fill_d0a16 3 [(2, .ofNat c), (1, z), (9, 0), (0, 0), (9, 0)] [(2, .ofNat c)] σ from qG_stk 3 _ _ _ _).trans ?_
  rw [qG_1 (ins := .arraylength) (x := (0, 0, 0, 0)) rfl]
  have h : pm_exec (pm_E pm_T (pm_X0 L xs) pm_fc d) (pm_X0 L xs) pm_fc .arraylength (0, 0, 0, 0) 3 [(2, .ofNat c), (1, z), (9, 0), (0, 0), (9, 0)] [(2, .ofNat c)] σ = pm_nx 4 [(2, .ofNat c), (1, z), (9, 0), (0, 0), (9, 0)] [(0, (n : Int))] σ := by
    exact pm_alen_own hc hs
  rw [h]
  exact qG_stk 1 _ _ _ _
theorem fj_5 {σ : pm_S} {c : Nat} {z x y : Int} : qG L xs d CJ7_fill_d0a16 6 [(2, .ofNat c), (1, z), (9, 0), (0, x), (0, y)] [] σ = if x < y then qG L xs d CJ7_fill_d0a16 12 [(2, .ofNat c), (1, z), (9, 0), (0, x), (0, y)] [] σ else qG L xs d CJ7_fill_d0a16 22 [(2, .ofNat c), (1, z), (9, 0), (0, x), (0, y)] [] σ := (qG_stk 3 _ _ _ _).trans qG_if
theorem fj_a {σ : pm_S} {c n : Nat} {z x y : Int} (hs : pm_get σ.1 c = some (1, 1, n)) (h0 : 0 ≤ x) (hn : x < (n : Int)) : qG L xs d CJ7_fill_d0a16 12 [(2, .ofNat c), (1, z), (9, 0), (0, x), (0, y)] [] σ = qG L xs d CJ7_fill_d0a16 6 [(2, .ofNat c), (1, z), (9, 0), (0, w32 (x + 1)), (0, y)] [] (σ.1, pm_up σ.2 c x.toNat z) := by
  refine (show qG L xs d CJ7_fill_d0a16 12 [(2, .ofNat c), (1, z), (9, 0), (0, x), (0, y)] [] σ = qG L xs d CJ7_fill_d0a16 15 [(2, .ofNat c), (1, z), (9, 0), (0, x), (0, y)] [(1, z), (0, x), (2, .ofNat c)] σ from qG_stk 3 _ _ _ _).trans ?_
  have h : pm_exec (pm_E pm_T (pm_X0 L xs) pm_fc d) (pm_X0 L xs) pm_fc .lastore (0, 0, 0, 0) 15 [(2, .ofNat c), (1, z), (9, 0), (0, x), (0, y)] [(1, z), (0, x), (2, .ofNat c)] σ = pm_nx (15 + 1) [(2, .ofNat c), (1, z), (9, 0), (0, x), (0, y)] [] (σ.1, pm_up σ.2 c x.toNat z) := by
    exact pm_astore_own hs (fun q => absurd q (by decide)) h0 hn
  rw [qG_1 (ins := .lastore) (x := (0, 0, 0, 0)) rfl, h]
  exact qG_stk 2 _ _ _ _
theorem fj_z {σ : pm_S} {c : Nat} {z x y : Int} : qG L xs d CJ7_fill_d0a16 22 [(2, .ofNat c), (1, z), (9, 0), (0, x), (0, y)] [] σ = some (none, σ) := qG_stk 1 _ _ _ _
theorem fj_lp {h : List (Nat × Nat × Nat)} {c n : Nat} {z : Int} (hs : pm_get h c = some (1, 1, n)) (hn : n < 2147483648) : ∀ (k j : Nat) (μ : Nat → Nat → Int), j + k = n → qG L xs d CJ7_fill_d0a16 6 [(2, .ofNat c), (1, z), (9, 0), (0, (j : Int)), (0, (n : Int))] [] (h, μ) = some (none, (h, pm_fl μ c j n z))
  | 0, j, μ, hj => by
    rw [fj_5, if_neg (by omega), fj_z]
    have : pm_fl μ c j n z = μ := by
      funext a i
      exact if_neg (by omega)
    rw [this]
  | k + 1, j, μ, hj => by
    rw [fj_5, if_pos (by omega), fj_a hs (by omega) (by omega), w32_id (by omega) (by omega)]
    have h1 := fj_lp (z := z) hs hn k (j + 1) (pm_up μ c (j : Int).toNat z) (by omega)
    rw [show ((j + 1 : Nat) : Int) = (j : Int) + 1 by omega] at h1
    refine h1.trans ?_
    have : pm_fl (pm_up μ c (j : Int).toNat z) c (j + 1) n z = pm_fl μ c j n z := by
      funext a i
      unfold pm_fl pm_up
      by_cases h1 : a = c ∧ j + 1 ≤ i ∧ i < n
      · rw [if_pos h1, if_pos ⟨h1.1, by omega, h1.2.2⟩]
      · rw [if_neg h1]
        by_cases h2 : a = c ∧ i = (j : Int).toNat
        · rw [if_pos h2, if_pos ⟨h2.1, by omega, by omega⟩]
        · rw [if_neg h2, if_neg (fun q => ?_)]
          by_cases h3 : i = j
          · exact h2 ⟨q.1, by omega⟩
          · exact h1 ⟨q.1, by omega, q.2.2⟩
    rw [this]
theorem fj_all {h : List (Nat × Nat × Nat)} {μ : Nat → Nat → Int} {c n : Nat} {z : Int} (hc : c < 1000) (hs : pm_get h c = some (1, 1, n)) (hn : n < 2147483648) : qE L xs (d + 1) nJ7_fill_d0a16 [(2, .ofNat c), (1, z)] (h, μ) = some (none, (h, pm_fl μ c 0 n z)) := by
  show qG L xs d CJ7_fill_d0a16 0 [(2, .ofNat c), (1, z), (9, 0), (9, 0), (9, 0)] [] (h, μ) = _
  rw [fj_0 hc hs]
  exact fj_lp hs hn n 0 μ (by omega)
end FI
