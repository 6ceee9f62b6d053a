/-! JOINED: 19.fill, 20.ev, 21.hand, 22.wall, 23.easy, 24.fresh -/
section
/-! Arrays.fill over any heap (written by wip/p1/19.fill.py) -/
def pm_fl (μ : Nat → Nat → Int) (c lo hi : Nat) (z : Int) : Nat → Nat → Int := fun a i => if a = c ∧ lo ≤ i ∧ i < hi then z else μ a i
theorem pm_alen_own {X : pm_X} {σ : pm_S} {i e n pc : Nat} {ls r : List pm_V} (hc : i < 1000) (hs : pm_get σ.1 i = some (1, e, n)) : pm_alen X pc ls ((2, .ofNat i) :: r) σ = pm_nx (pc + 1) ls ((0, (n : Int)) :: r) σ := by
  have h : pm_arr X σ i = some (e, n, σ.2 i) := by
    unfold pm_arr
    rw [if_neg (by omega), hs]
    rfl
  show (match pm_arr X σ i with
    | some (_, n, _) => pm_nx (pc + 1) ls ((0, (n : Int)) :: r) σ
    | none => none) = _
  rw [h]
theorem pm_astore_own {σ : pm_S} {i e t n pc : Nat} {ls r : List pm_V} {k v : Int} (hs : pm_get σ.1 i = some (1, e, n)) (h2 : e = 2 → v = 0 ∨ v = 1) (h0 : 0 ≤ k) (hn : k < (n : Int)) : pm_astore e t pc ls ((t, v) :: (0, k) :: (2, .ofNat i) :: r) σ = pm_nx (pc + 1) ls r (σ.1, pm_up σ.2 i k.toNat v) := by
  show (match pm_get σ.1 i with
    | some (1, e0, n) => if e0 = e ∧ t = t ∧ (e = 2 → v = 0 ∨ v = 1) then (if 0 ≤ k ∧ k < (n : Int) then pm_nx (pc + 1) ls r (σ.1, pm_up σ.2 i k.toNat v) else none) else none
    | _ => none) = _
  rw [hs]
  exact (if_pos ⟨rfl, rfl, h2⟩).trans (if_pos ⟨h0, hn⟩)
section FI
variable {L : Nat} {xs : Nat → Int} {d : Nat}
theorem fi_0 {σ : pm_S} {c n : Nat} {z : Int} (hc : c < 1000) (hs : pm_get σ.1 c = some (1, 0, n)) : qG L xs d CJ7_fill_53178 0 [(2, .ofNat c), (0, z), (9, 0), (9, 0)] [] σ = qG L xs d CJ7_fill_53178 5 [(2, .ofNat c), (0, z), (0, 0), (0, (n : Int))] [] σ := by
  refine (show qG L xs d CJ7_fill_53178 0 [(2, .ofNat c), (0, z), (9, 0), (9, 0)] [] σ = qG L xs d CJ7_fill_53178 3 [(2, .ofNat c), (0, z), (0, 0), (9, 0)] [(2, .ofNat c)] σ from qG_stk 3 _ _ _ _).trans ?_
  rw [qG_1 (ins := .arraylength) (x := (0, 0, 0, 0)) rfl]
  have h : pm_exec (pm_E pm_T (pm_X0 L xs) pm_fc d) (pm_X0 L xs) pm_fc .arraylength (0, 0, 0, 0) 3 [(2, .ofNat c), (0, z), (0, 0), (9, 0)] [(2, .ofNat c)] σ = pm_nx 4 [(2, .ofNat c), (0, z), (0, 0), (9, 0)] [(0, (n : Int))] σ := by
    exact pm_alen_own hc hs
  rw [h]
  exact qG_stk 1 _ _ _ _
theorem fi_5 {σ : pm_S} {c : Nat} {z x y : Int} : qG L xs d CJ7_fill_53178 5 [(2, .ofNat c), (0, z), (0, x), (0, y)] [] σ = if x < y then qG L xs d CJ7_fill_53178 10 [(2, .ofNat c), (0, z), (0, x), (0, y)] [] σ else qG L xs d CJ7_fill_53178 20 [(2, .ofNat c), (0, z), (0, x), (0, y)] [] σ := (qG_stk 3 _ _ _ _).trans qG_if
theorem fi_a {σ : pm_S} {c n : Nat} {z x y : Int} (hs : pm_get σ.1 c = some (1, 0, n)) (h0 : 0 ≤ x) (hn : x < (n : Int)) : qG L xs d CJ7_fill_53178 10 [(2, .ofNat c), (0, z), (0, x), (0, y)] [] σ = qG L xs d CJ7_fill_53178 5 [(2, .ofNat c), (0, z), (0, w32 (x + 1)), (0, y)] [] (σ.1, pm_up σ.2 c x.toNat z) := by
  refine (show qG L xs d CJ7_fill_53178 10 [(2, .ofNat c), (0, z), (0, x), (0, y)] [] σ = qG L xs d CJ7_fill_53178 13 [(2, .ofNat c), (0, z), (0, x), (0, y)] [(0, z), (0, x), (2, .ofNat c)] σ from qG_stk 3 _ _ _ _).trans ?_
  have h : pm_exec (pm_E pm_T (pm_X0 L xs) pm_fc d) (pm_X0 L xs) pm_fc .iastore (0, 0, 0, 0) 13 [(2, .ofNat c), (0, z), (0, x), (0, y)] [(0, z), (0, x), (2, .ofNat c)] σ = pm_nx (13 + 1) [(2, .ofNat c), (0, z), (0, x), (0, y)] [] (σ.1, pm_up σ.2 c x.toNat z) := by
    exact pm_astore_own hs (fun q => absurd q (by decide)) h0 hn
  rw [qG_1 (ins := .iastore) (x := (0, 0, 0, 0)) rfl, h]
  exact qG_stk 2 _ _ _ _
theorem fi_z {σ : pm_S} {c : Nat} {z x y : Int} : qG L xs d CJ7_fill_53178 20 [(2, .ofNat c), (0, z), (0, x), (0, y)] [] σ = some (none, σ) := qG_stk 1 _ _ _ _
theorem fi_lp {h : List (Nat × Nat × Nat)} {c n : Nat} {z : Int} (hs : pm_get h c = some (1, 0, n)) (hn : n < 2147483648) : ∀ (k j : Nat) (μ : Nat → Nat → Int), j + k = n → qG L xs d CJ7_fill_53178 5 [(2, .ofNat c), (0, z), (0, (j : Int)), (0, (n : Int))] [] (h, μ) = some (none, (h, pm_fl μ c j n z))
  | 0, j, μ, hj => by
    rw [fi_5, if_neg (by omega), fi_z]
    have : pm_fl μ c j n z = μ := by
      funext a i
      exact if_neg (by omega)
    rw [this]
  | k + 1, j, μ, hj => by
    rw [fi_5, if_pos (by omega), fi_a hs (by omega) (by omega), w32_id (by omega) (by omega)]
    have h1 := fi_lp (z := z) hs hn k (j + 1) (pm_up μ c (j : Int).toNat z) (by omega)
    rw [show ((j + 1 : Nat) : Int) = (j : Int) + 1 by omega] at h1
    refine h1.trans ?_
    have : pm_fl (pm_up μ c (j : Int).toNat z) c (j + 1) n z = pm_fl μ c j n z := by
      funext a i
      unfold pm_fl pm_up
      by_cases h1 : a = c ∧ j + 1 ≤ i ∧ i < n
      · rw [if_pos h1, if_pos ⟨h1.1, by omega, h1.2.2⟩]
      · rw [if_neg h1]
        by_cases h2 : a = c ∧ i = (j : Int).toNat
        · rw [if_pos h2, if_pos ⟨h2.1, by omega, by omega⟩]
        · rw [if_neg h2, if_neg (fun q => ?_)]
          by_cases h3 : i = j
          · exact h2 ⟨q.1, by omega⟩
          · exact h1 ⟨q.1, by omega, q.2.2⟩
    rw [this]
theorem fi_all {h : List (Nat × Nat × Nat)} {μ : Nat → Nat → Int} {c n : Nat} {z : Int} (hc : c < 1000) (hs : pm_get h c = some (1, 0, n)) (hn : n < 2147483648) : qE L xs (d + 1) nJ7_fill_53178 [(2, .ofNat c), (0, z)] (h, μ) = some (none, (h, pm_fl μ c 0 n z)) := by
  show qG L xs d CJ7_fill_53178 0 [(2, .ofNat c), (0, z), (9, 0), (9, 0)] [] (h, μ) = _
  rw [fi_0 hc hs]
  exact fi_lp hs hn n 0 μ (by omega)
theorem fj_0 {σ : pm_S} {c n : Nat} {z : Int} (hc : c < 1000) (hs : pm_get σ.1 c = some (1, 1, n)) : qG L xs d CJ7_fill_d0a16 0 [(2, .ofNat c), (1, z), (9, 0), (9, 0), (9, 0)] [] σ = qG L xs d CJ7_fill_d0a16 6 [(2, .ofNat c), (1, z), (9, 0), (0, 0), (0, (n : Int))] [] σ := by
  refine (show qG L xs d CJ7_fill_d0a16 0 [(2, .ofNat c), (1, z), (9, 0), (9, 0), (9, 0)] [] σ = qG L xs d CJ7_fill_d0a16 3 [(2, .ofNat c), (1, z), (9, 0), (0, 0), (9, 0)] [(2, .ofNat c)] σ from qG_stk 3 _ _ _ _).trans ?_
  rw [qG_1 (ins := .arraylength) (x := (0, 0, 0, 0)) rfl]
  have h : pm_exec (pm_E pm_T (pm_X0 L xs) pm_fc d) (pm_X0 L xs) pm_fc .arraylength (0, 0, 0, 0) 3 [(2, .ofNat c), (1, z), (9, 0), (0, 0), (9, 0)] [(2, .ofNat c)] σ = pm_nx 4 [(2, .ofNat c), (1, z), (9, 0), (0, 0), (9, 0)] [(0, (n : Int))] σ := by
    exact pm_alen_own hc hs
  rw [h]
  exact qG_stk 1 _ _ _ _
theorem fj_5 {σ : pm_S} {c : Nat} {z x y : Int} : qG L xs d CJ7_fill_d0a16 6 [(2, .ofNat c), (1, z), (9, 0), (0, x), (0, y)] [] σ = if x < y then qG L xs d CJ7_fill_d0a16 12 [(2, .ofNat c), (1, z), (9, 0), (0, x), (0, y)] [] σ else qG L xs d CJ7_fill_d0a16 22 [(2, .ofNat c), (1, z), (9, 0), (0, x), (0, y)] [] σ := (qG_stk 3 _ _ _ _).trans qG_if
theorem fj_a {σ : pm_S} {c n : Nat} {z x y : Int} (hs : pm_get σ.1 c = some (1, 1, n)) (h0 : 0 ≤ x) (hn : x < (n : Int)) : qG L xs d CJ7_fill_d0a16 12 [(2, .ofNat c), (1, z), (9, 0), (0, x), (0, y)] [] σ = qG L xs d CJ7_fill_d0a16 6 [(2, .ofNat c), (1, z), (9, 0), (0, w32 (x + 1)), (0, y)] [] (σ.1, pm_up σ.2 c x.toNat z) := by
  refine (show qG L xs d CJ7_fill_d0a16 12 [(2, .ofNat c), (1, z), (9, 0), (0, x), (0, y)] [] σ = qG L xs d CJ7_fill_d0a16 15 [(2, .ofNat c), (1, z), (9, 0), (0, x), (0, y)] [(1, z), (0, x), (2, .ofNat c)] σ from qG_stk 3 _ _ _ _).trans ?_
  have h : pm_exec (pm_E pm_T (pm_X0 L xs) pm_fc d) (pm_X0 L xs) pm_fc .lastore (0, 0, 0, 0) 15 [(2, .ofNat c), (1, z), (9, 0), (0, x), (0, y)] [(1, z), (0, x), (2, .ofNat c)] σ = pm_nx (15 + 1) [(2, .ofNat c), (1, z), (9, 0), (0, x), (0, y)] [] (σ.1, pm_up σ.2 c x.toNat z) := by
    exact pm_astore_own hs (fun q => absurd q (by decide)) h0 hn
  rw [qG_1 (ins := .lastore) (x := (0, 0, 0, 0)) rfl, h]
  exact qG_stk 2 _ _ _ _
theorem fj_z {σ : pm_S} {c : Nat} {z x y : Int} : qG L xs d CJ7_fill_d0a16 22 [(2, .ofNat c), (1, z), (9, 0), (0, x), (0, y)] [] σ = some (none, σ) := qG_stk 1 _ _ _ _
theorem fj_lp {h : List (Nat × Nat × Nat)} {c n : Nat} {z : Int} (hs : pm_get h c = some (1, 1, n)) (hn : n < 2147483648) : ∀ (k j : Nat) (μ : Nat → Nat → Int), j + k = n → qG L xs d CJ7_fill_d0a16 6 [(2, .ofNat c), (1, z), (9, 0), (0, (j : Int)), (0, (n : Int))] [] (h, μ) = some (none, (h, pm_fl μ c j n z))
  | 0, j, μ, hj => by
    rw [fj_5, if_neg (by omega), fj_z]
    have : pm_fl μ c j n z = μ := by
      funext a i
      exact if_neg (by omega)
    rw [this]
  | k + 1, j, μ, hj => by
    rw [fj_5, if_pos (by omega), fj_a hs (by omega) (by omega), w32_id (by omega) (by omega)]
    have h1 := fj_lp (z := z) hs hn k (j + 1) (pm_up μ c (j : Int).toNat z) (by omega)
    rw [show ((j + 1 : Nat) : Int) = (j : Int) + 1 by omega] at h1
    refine h1.trans ?_
    have : pm_fl (pm_up μ c (j : Int).toNat z) c (j + 1) n z = pm_fl μ c j n z := by
      funext a i
      unfold pm_fl pm_up
      by_cases h1 : a = c ∧ j + 1 ≤ i ∧ i < n
      · rw [if_pos h1, if_pos ⟨h1.1, by omega, h1.2.2⟩]
      · rw [if_neg h1]
        by_cases h2 : a = c ∧ i = (j : Int).toNat
        · rw [if_pos h2, if_pos ⟨h2.1, by omega, by omega⟩]
        · rw [if_neg h2, if_neg (fun q => ?_)]
          by_cases h3 : i = j
          · exact h2 ⟨q.1, by omega⟩
          · exact h1 ⟨q.1, by omega, q.2.2⟩
    rw [this]
theorem fj_all {h : List (Nat × Nat × Nat)} {μ : Nat → Nat → Int} {c n : Nat} {z : Int} (hc : c < 1000) (hs : pm_get h c = some (1, 1, n)) (hn : n < 2147483648) : qE L xs (d + 1) nJ7_fill_d0a16 [(2, .ofNat c), (1, z)] (h, μ) = some (none, (h, pm_fl μ c 0 n z)) := by
  show qG L xs d CJ7_fill_d0a16 0 [(2, .ofNat c), (1, z), (9, 0), (9, 0), (9, 0)] [] (h, μ) = _
  rw [fj_0 hc hs]
  exact fj_lp hs hn n 0 μ (by omega)
end FI
end
section
/-! THE FIRST STATE: a machine that counts (with fuel, and numbers made plain at each step) goes where the pure machine goes; so both constructors are run by the kernel -/
abbrev pm_oL (o o' : pm_O) : Prop := ∀ y a σ r, o y a σ = some r → o' y a σ = some r
abbrev pm_xL (X X' : pm_X) : Prop := ∀ j r, X j = some r → X' j = some r
section EV
variable {o o' : pm_O} {X X' : pm_X} {fc : pm_K} {pc : Nat} {ls st : List pm_V} {σ : pm_S} {q : pm_F ⊕ pm_R}
theorem pm_arr_mono (hX : pm_xL X X') {i : Nat} {r : Nat × Nat × (Nat → Int)} (h : pm_arr X σ i = some r) : pm_arr X' σ i = some r := by
  unfold pm_arr at h ⊢
  by_cases hi : 1000 ≤ i
  · rw [if_pos hi] at h ⊢
    exact hX _ _ h
  · rw [if_neg hi] at h ⊢
    exact h
theorem pm_aload_mono (hX : pm_xL X X') {e t : Nat} (h : pm_aload X e t pc ls st σ = some q) : pm_aload X' e t pc ls st σ = some q := by
  unfold pm_aload at h ⊢
  split at h
  · rename_i k i r
    cases ha : pm_arr X σ i with
    | none => rw [ha] at h; cases h
    | some w =>
      rw [ha] at h
      rw [pm_arr_mono hX ha]
      exact h
  · cases h
theorem pm_baload_mono (hX : pm_xL X X') (h : pm_baload X pc ls st σ = some q) : pm_baload X' pc ls st σ = some q := by
  unfold pm_baload at h ⊢
  split at h
  · rename_i k i r
    cases ha : pm_arr X σ i with
    | none => rw [ha] at h; cases h
    | some w =>
      rw [ha] at h
      rw [pm_arr_mono hX ha]
      exact h
  · cases h
theorem pm_alen_mono (hX : pm_xL X X') (h : pm_alen X pc ls st σ = some q) : pm_alen X' pc ls st σ = some q := by
  unfold pm_alen at h ⊢
  split at h
  · rename_i i r
    cases ha : pm_arr X σ i with
    | none => rw [ha] at h; cases h
    | some w =>
      rw [ha] at h
      rw [pm_arr_mono hX ha]
      exact h
  · cases h
theorem pm_call_mono (ho : pm_oL o o') {y : Nat} {as rest : List pm_V} (h : pm_call o y as rest pc ls σ = some q) : pm_call o' y as rest pc ls σ = some q := by
  unfold pm_call at h ⊢
  split at h
  · rename_i hf
    cases hr : o y as σ with
    | none => rw [hr] at h; cases h
    | some r =>
      rw [hr] at h
      rw [ho _ _ _ _ hr]
      exact h
  · cases h
theorem pm_callS_mono (ho : pm_oL o o') {y n : Nat} (h : pm_callS o y n pc ls st σ = some q) : pm_callS o' y n pc ls st σ = some q := by
  unfold pm_callS at h ⊢
  split at h
  · exact pm_call_mono ho h
  · cases h
theorem pm_callV_mono (ho : pm_oL o o') {y n z : Nat} (h : pm_callV o y n z pc ls st σ = some q) : pm_callV o' y n z pc ls st σ = some q := by
  unfold pm_callV at h ⊢
  split at h
  · split at h
    · exact pm_call_mono ho h
    · cases h
  · cases h
theorem pm_callI_mono (ho : pm_oL o o') {y n : Nat} (h : pm_callI o y n pc ls st σ = some q) : pm_callI o' y n pc ls st σ = some q := by
  unfold pm_callI at h ⊢
  split at h
  · split at h
    · exact pm_call_mono ho h
    · cases h
  · cases h
theorem pm_exec_mono (ho : pm_oL o o') (hX : pm_xL X X') {ins : Instr} {x : pm_A} (h : pm_exec o X fc ins x pc ls st σ = some q) : pm_exec o' X' fc ins x pc ls st σ = some q := by
  cases ins
  case iaload => exact pm_aload_mono hX h
  case laload => exact pm_aload_mono hX h
  case baload => exact pm_baload_mono hX h
  case arraylength => exact pm_alen_mono hX h
  case invokevirtual i => exact pm_callV_mono (n := x.2.1) ho h
  case invokespecial i =>
    unfold pm_exec at h ⊢
    dsimp only at h ⊢
    split at h
    · exact h
    · exact pm_callI_mono ho h
  case invokestatic i =>
    unfold pm_exec at h ⊢
    dsimp only at h ⊢
    split at h
    · exact h
    · exact h
    · exact h
    · exact h
    · exact pm_callS_mono ho h
  all_goals exact h
theorem pm_step_mono (ho : pm_oL o o') (hX : pm_xL X X') {C : pm_C} {g : pm_F} (h : pm_step o X fc C g = some q) : pm_step o' X' fc C g = some q := by
  unfold pm_step at h ⊢
  split at h
  · exact pm_exec_mono ho hX h
  · cases h
end EV
def pm_frN {α : Type} (n : Nat) (k : Nat → α) : α := match n with
  | 0 => k 0
  | m + 1 => k (Nat.succ m)
def pm_frI {α : Type} (z : Int) (k : Int → α) : α := match z with
  | .ofNat n => pm_frN n (fun n => k (.ofNat n))
  | .negSucc n => pm_frN n (fun n => k (.negSucc n))
def pm_frV {α : Type} (v : pm_V) (k : pm_V → α) : α := match v with
  | (t, z) => pm_frN t (fun t => pm_frI z (fun z => k (t, z)))
def pm_frL {α : Type} : List pm_V → (List pm_V → α) → α
  | [], k => k []
  | a :: l, k => pm_frV a (fun a => pm_frL l (fun l => k (a :: l)))
def pm_frH {α : Type} : List (Nat × Nat × Nat) → (List (Nat × Nat × Nat) → α) → α
  | [], k => k []
  | (a, b, c) :: l, k => pm_frN a (fun a => pm_frN b (fun b => pm_frN c (fun c => pm_frH l (fun l => k ((a, b, c) :: l)))))
theorem pm_frN_eq {α : Type} (n : Nat) (k : Nat → α) : pm_frN n k = k n := by cases n <;> rfl
theorem pm_frI_eq {α : Type} (z : Int) (k : Int → α) : pm_frI z k = k z := by
  cases z with
  | ofNat n => exact pm_frN_eq n (fun n => k (.ofNat n))
  | negSucc n => exact pm_frN_eq n (fun n => k (.negSucc n))
theorem pm_frV_eq {α : Type} (v : pm_V) (k : pm_V → α) : pm_frV v k = k v := by
  obtain ⟨t, z⟩ := v
  unfold pm_frV
  dsimp only
  rw [pm_frN_eq, pm_frI_eq]
theorem pm_frL_eq {α : Type} : ∀ (l : List pm_V) (k : List pm_V → α), pm_frL l k = k l
  | [], k => rfl
  | a :: l, k => by
    unfold pm_frL
    rw [pm_frV_eq, pm_frL_eq l]
theorem pm_frH_eq {α : Type} : ∀ (l : List (Nat × Nat × Nat)) (k : List (Nat × Nat × Nat) → α), pm_frH l k = k l
  | [], k => rfl
  | (a, b, c) :: l, k => by
    unfold pm_frH
    rw [pm_frN_eq, pm_frN_eq, pm_frN_eq, pm_frH_eq l]
def pm_isN (ins : Instr) : Bool := match ins with
  | .new _ => true
  | .newarray _ => true
  | .multianewarray _ _ => true
  | _ => false
def pm_st1 (orc : pm_O) (X : pm_X) (fc : pm_K) (C : pm_C) (g : pm_F) : Option (pm_F ⊕ pm_R) := match g with
  | (pc, ls, st, σ) => match pm_fetch C pc with
    | some (ins, x) => (match pm_exec orc X fc ins x pc ls st σ with
      | some (.inl (pc, ls, st, (h, μ))) => pm_frN pc (fun pc => pm_frL ls (fun ls => pm_frL st (fun st => (match pm_isN ins with
        | true => pm_frH h (fun h => some (.inl (pc, ls, st, (h, μ))))
        | false => some (.inl (pc, ls, st, (h, μ)))))))
      | some (.inr r) => some (.inr r)
      | none => none)
    | none => none
theorem pm_st1_eq (orc : pm_O) (X : pm_X) (fc : pm_K) (C : pm_C) (g : pm_F) : pm_st1 orc X fc C g = pm_step orc X fc C g := by
  obtain ⟨pc, ls, st, σ⟩ := g
  unfold pm_st1 pm_step
  dsimp only
  cases pm_fetch C pc with
  | none => rfl
  | some w =>
    obtain ⟨ins, x⟩ := w
    dsimp only
    cases pm_exec orc X fc ins x pc ls st σ with
    | none => rfl
    | some q =>
      cases q with
      | inl g =>
        obtain ⟨pc, ls, st, h, μ⟩ := g
        dsimp only
        rw [pm_frN_eq, pm_frL_eq, pm_frL_eq]
        cases pm_isN ins with
        | true => exact pm_frH_eq h (fun h => (some (Sum.inl (pc, ls, st, (h, μ))) : Option (pm_F ⊕ pm_R)))
        | false => rfl
      | inr r => rfl
def pm_rnf (orc : pm_O) (X : pm_X) (fc : pm_K) (C : pm_C) : Nat → pm_F → Option pm_R
  | 0, _ => none
  | n + 1, g => match pm_st1 orc X fc C g with
    | some (.inl g') => pm_rnf orc X fc C n g'
    | some (.inr r) => some r
    | none => none
theorem pm_rnf_run {o o' : pm_O} {X X' : pm_X} {fc : pm_K} {C : pm_C} (ho : pm_oL o o') (hX : pm_xL X X') {r : pm_R} : ∀ {n : Nat} {g : pm_F}, pm_rnf o X fc C n g = some r → pm_run o' X' fc C n g = some r
  | 0, g, h => by cases h
  | n + 1, g, h => by
    unfold pm_rnf at h
    unfold pm_run
    rw [pm_st1_eq] at h
    cases hs : pm_step o X fc C g with
    | none => rw [hs] at h; cases h
    | some q =>
      rw [hs] at h
      rw [pm_step_mono ho hX hs]
      cases q with
      | inl g' => exact pm_rnf_run ho hX h
      | inr r' => exact h
/-- Arrays.fill at once -/
def pm_fil (a : List pm_V) (σ : pm_S) : Option pm_R := match a with
  | [(2, .ofNat c), (0, z)] => (match pm_get σ.1 c with
    | some (1, 0, n) => (match Nat.blt c 1000 && Nat.blt n 2147483648 with
      | true => some (none, (σ.1, pm_fl σ.2 c 0 n z))
      | false => none)
    | _ => none)
  | _ => none
theorem pm_fil_E {L : Nat} {xs : Nat → Int} {d : Nat} {a : List pm_V} {σ : pm_S} {r : pm_R} (h : pm_fil a σ = some r) : pm_E pm_T (pm_X0 L xs) pm_fc (d + 1) nJ7_fill_53178 a σ = some r := by
  unfold pm_fil at h
  split at h
  · rename_i c z
    cases hg : pm_get σ.1 c with
    | none => rw [hg] at h; cases h
    | some w =>
      rw [hg] at h
      obtain ⟨w1, w2, n'⟩ := w
      match w1, w2, hg, h with
      | 0, _, _, h => cases h
      | k + 2, _, _, h => cases h
      | 1, k + 1, _, h => cases h
      | 1, 0, hg, h =>
        cases hb : (Nat.blt c 1000 && Nat.blt n' 2147483648) with
        | false => simp only [hb] at h; cases h
        | true =>
          simp only [hb] at h
          have hb' := Bool.and_eq_true_iff.mp hb
          have b1 : c < 1000 := Nat.blt_eq.mp hb'.1
          have b2 : n' < 2147483648 := Nat.blt_eq.mp hb'.2
          rw [← h]
          exact fi_all b1 hg b2
  · cases h
noncomputable def pm_ev (X : pm_X) (n : Nat) : Nat → pm_O
  | 0 => fun _ _ _ => none
  | d + 1 => fun y args σ => match Nat.beq y nJ7_fill_53178 with
    | true => pm_fil args σ
    | false => (match pm_get pm_T y with
      | some M => (match Nat.ble (pm_spr args).length M.2.2.1 with
        | true => pm_rnf (pm_ev X n d) X pm_fc M.2.2.2.2 n (0, pm_pad M.2.2.1 (pm_spr args), [], σ)
        | false => none)
      | none => none)
theorem pm_ev_E {X : pm_X} {L : Nat} {xs : Nat → Int} {n : Nat} (hX : pm_xL X (pm_X0 L xs)) : ∀ {d d' : Nat}, d ≤ d' → pm_oL (pm_ev X n d) (pm_E pm_T (pm_X0 L xs) pm_fc d')
  | 0, _, _ => fun y a σ r h => by cases h
  | d + 1, 0, hd => absurd hd (by omega)
  | d + 1, d' + 1, hd => fun y a σ r h => by
    unfold pm_ev at h
    cases hy : Nat.beq y nJ7_fill_53178 with
    | true =>
      have h2 : pm_fil a σ = some r := by
        rw [← h]
        simp only [hy]
      have hy' := Nat.eq_of_beq_eq_true hy
      subst hy'
      exact pm_fil_E h2
    | false =>
      simp only [hy] at h
      unfold pm_E
      cases hT : pm_get pm_T y with
      | none => rw [hT] at h; cases h
      | some M =>
        rw [hT] at h
        cases hb : Nat.ble (pm_spr a).length M.2.2.1 with
        | false => simp only [hb] at h; cases h
        | true =>
          simp only [hb] at h ⊢
          exact pm_go_iff.mpr ⟨n, pm_rnf_run (pm_ev_E hX (by omega)) hX h⟩
/-- some steps at the top -/
def pm_sf (orc : pm_O) (X : pm_X) (fc : pm_K) (C : pm_C) : Nat → pm_F → Option pm_F
  | 0, g => some g
  | k + 1, g => match pm_st1 orc X fc C g with
    | some (.inl g') => pm_sf orc X fc C k g'
    | _ => none
theorem pm_sf_go {o o' : pm_O} {X X' : pm_X} {fc : pm_K} {C : pm_C} (ho : pm_oL o o') (hX : pm_xL X X') : ∀ {k : Nat} {g g' : pm_F}, pm_sf o X fc C k g = some g' → pm_go o' X' fc C g = pm_go o' X' fc C g'
  | 0, g, g', h => by
    unfold pm_sf at h
    cases h
    rfl
  | k + 1, g, g', h => by
    unfold pm_sf at h
    rw [pm_st1_eq] at h
    cases hs : pm_step o X fc C g with
    | none => rw [hs] at h; cases h
    | some q =>
      rw [hs] at h
      cases q with
      | inl g1 =>
        rw [pm_go_step, pm_step_mono ho hX hs]
        exact pm_sf_go ho hX h
      | inr r => cases h
/-- without the script -/
def pm_X1 : pm_X := fun j => if j = 5 then none else pm_X0 0 (fun _ => 0) j
theorem pm_X1_le (L : Nat) (xs : Nat → Int) : pm_xL pm_X1 (pm_X0 L xs) := fun j r h => by
  unfold pm_X1 at h
  by_cases hj : j = 5
  · rw [if_pos hj] at h; cases h
  · rw [if_neg hj] at h
    unfold pm_X0 at h ⊢
    rw [if_neg hj] at h ⊢
    exact h
noncomputable def fr_end : Option pm_F := pm_sf (pm_ev pm_X1 2000 30) pm_X1 pm_fc CL_law 10 (0, [(2, 1005), (9, 0), (9, 0), (9, 0)], [], ([], fun _ _ => 0))
/-- what numbers stand there: cell, first place, how many, each -/
def fr_facts : List (Nat × Nat × Nat × Int) := [(0, 11, 1, 0), (1, 1, 2, 0), (3, 0, 30, 4), (4, 0, 30, 50), (5, 0, 30, (-1)), (6, 0, 30, 1), (7, 0, 30, 1), (8, 0, 30, 1), (9, 0, 30, 1), (10, 0, 30, 2), (11, 0, 30, 12), (12, 0, 30, 3), (13, 0, 30, 1), (14, 0, 30, 3), (18, 4, 2, 0), (23, 1, 1, 25), (23, 2, 1, 26), (23, 5, 6, 0), (29, 8, 2, 0), (38, 0, 1, 39), (38, 1, 1, 40), (38, 2, 1, 0), (42, 0, 36, 0), (47, 0, 4, 0), (48, 0, 4, 0), (49, 2, 2, 0), (53, 0, 6, (-1)), (63, 4, 3, 0), (63, 8, 1, 0), (63, 12, 1, 0), (63, 14, 1, (-1)), (63, 15, 5, 0), (63, 22, 3, (-1)), (63, 32, 5, 0), (63, 39, 1, 0), (63, 42, 3, 0), (64, 0, 30, 4), (64, 30, 30, 50), (64, 60, 30, (-1)), (64, 90, 48, 0), (64, 138, 2, 2), (64, 140, 1, 12), (64, 141, 1, 3), (64, 142, 1, 1), (64, 143, 1, 3), (79, 0, 36, 0), (86, 0, 6, (-1))]
def fr_row (μ : Nat → Nat → Int) (c : Nat) : Nat → List (Option Int) → Bool
  | _, [] => true
  | k, none :: l => fr_row μ c (k + 1) l
  | k, some z :: l => decide (μ c k = z) && fr_row μ c (k + 1) l
def fr_rows (μ : Nat → Nat → Int) : Nat → List (List (Option Int)) → Bool
  | _, [] => true
  | c, l :: ls => fr_row μ c 0 l && fr_rows μ (c + 1) ls
def fr_rg (μ : Nat → Nat → Int) (c k : Nat) (z : Int) : Nat → Bool
  | 0 => true
  | n + 1 => decide (μ c (k + n) = z) && fr_rg μ c k z n
def fr_ok (g : Option pm_F) : Bool := match g with
  | some (pc, ls, st, (h, μ)) => decide (pc = 18) && (decide (ls = [(2, 1005), (2, 0), (2, 63), (0, 0)]) && (decide (st = []) && (decide (h = SH) && (fr_rows μ 0 pm_refs && fr_facts.all (fun q => fr_rg μ q.1 q.2.1 q.2.2.2 q.2.2.1)))))
  | none => false
theorem fr_is : fr_ok fr_end = true := by decide +kernel
theorem fr_row_at {μ : Nat → Nat → Int} {c : Nat} {z : Int} : ∀ {l : List (Option Int)} {k i : Nat}, fr_row μ c k l = true → pm_get l i = some (some z) → μ c (k + i) = z
  | [], k, i, _, h => by unfold pm_get at h; cases h
  | none :: l, k, 0, _, h => by unfold pm_get at h; cases h
  | some w :: l, k, 0, h1, h => by
    unfold pm_get at h
    cases h
    unfold fr_row at h1
    exact of_decide_eq_true (Bool.and_eq_true_iff.mp h1).1
  | none :: l, k, i + 1, h1, h => by
    unfold pm_get at h
    unfold fr_row at h1
    have := fr_row_at h1 h
    rw [show k + (i + 1) = k + 1 + i by omega]
    exact this
  | some w :: l, k, i + 1, h1, h => by
    unfold pm_get at h
    unfold fr_row at h1
    have := fr_row_at (Bool.and_eq_true_iff.mp h1).2 h
    rw [show k + (i + 1) = k + 1 + i by omega]
    exact this
theorem fr_rows_at {μ : Nat → Nat → Int} {l : List (Option Int)} : ∀ {ls : List (List (Option Int))} {c i : Nat}, fr_rows μ c ls = true → pm_get ls i = some l → fr_row μ (c + i) 0 l = true
  | [], c, i, _, h => by unfold pm_get at h; cases h
  | w :: ls, c, 0, h1, h => by
    unfold pm_get at h
    cases h
    unfold fr_rows at h1
    exact (Bool.and_eq_true_iff.mp h1).1
  | w :: ls, c, i + 1, h1, h => by
    unfold pm_get at h
    unfold fr_rows at h1
    have := fr_rows_at (Bool.and_eq_true_iff.mp h1).2 h
    rw [show c + (i + 1) = c + 1 + i by omega]
    exact this
theorem fr_mm {μ : Nat → Nat → Int} (h : fr_rows μ 0 pm_refs = true) : mm μ = μ := by
  funext c k
  show (match refAt c k with
    | some z => z
    | none => μ c k) = μ c k
  cases hr : refAt c k with
  | none => rfl
  | some z =>
    dsimp only
    unfold refAt at hr
    cases h1 : pm_get pm_refs c with
    | none => rw [h1] at hr; cases hr
    | some l =>
      rw [h1] at hr
      dsimp only at hr
      cases h2 : pm_get l k with
      | none => rw [h2] at hr; cases hr
      | some w =>
        rw [h2] at hr
        dsimp only at hr
        subst hr
        have h3 := fr_row_at (fr_rows_at h h1) h2
        rw [Nat.zero_add, Nat.zero_add] at h3
        exact h3.symm
theorem fr_rg_at {μ : Nat → Nat → Int} {c k : Nat} {z : Int} : ∀ {n i : Nat}, fr_rg μ c k z n = true → i < n → μ c (k + i) = z
  | 0, i, _, h => absurd h (by omega)
  | n + 1, i, h1, h => by
    unfold fr_rg at h1
    have h2 := Bool.and_eq_true_iff.mp h1
    by_cases hi : i = n
    · subst hi
      exact of_decide_eq_true h2.1
    · exact fr_rg_at h2.2 (by omega)
/-- what the first state's numbers are -/
def Fresh (v : Nat → Nat → Int) : Prop := fr_facts.all (fun q => fr_rg v q.1 q.2.1 q.2.2.2 q.2.2.1) = true
theorem fresh_at {v : Nat → Nat → Int} (h : Fresh v) (c k n : Nat) (z : Int) (hm : (c, k, n, z) ∈ fr_facts) (i : Nat) (hi : k ≤ i) (hn : i < k + n) : v c i = z := by
  have h1 := fr_rg_at (i := i - k) (List.all_eq_true.mp h _ hm) (by dsimp only; omega)
  dsimp only at h1
  rw [show k + (i - k) = i by omega] at h1
  exact h1
theorem pm_fresh (L : Nat) (xs : Nat → Int) : ∃ v, Fresh v ∧ pm_go (pm_E pm_T (pm_X0 L xs) pm_fc 1000) (pm_X0 L xs) pm_fc CL_law (0, [(2, 1005), (9, 0), (9, 0), (9, 0)], [], ([], fun _ _ => 0)) = qG L xs 1000 CL_law 18 [(2, 1005), (2, 0), (2, 63), (0, 0)] [] (qS v) := by
  have h := fr_is
  cases hg : fr_end with
  | none => rw [hg] at h; cases h
  | some g =>
    obtain ⟨pc, ls, st, hp, μ⟩ := g
    rw [hg] at h
    unfold fr_ok at h
    dsimp only at h
    have h1 := Bool.and_eq_true_iff.mp h
    have h2 := Bool.and_eq_true_iff.mp h1.2
    have h3 := Bool.and_eq_true_iff.mp h2.2
    have h4 := Bool.and_eq_true_iff.mp h3.2
    have h5 := Bool.and_eq_true_iff.mp h4.2
    have e1 := of_decide_eq_true h1.1
    have e2 := of_decide_eq_true h2.1
    have e3 := of_decide_eq_true h3.1
    have e4 := of_decide_eq_true h4.1
    subst e1 e2 e3 e4
    refine ⟨μ, h5.2, ?_⟩
    unfold fr_end at hg
    rw [pm_sf_go (pm_ev_E (pm_X1_le L xs) (by decide)) (pm_X1_le L xs) hg]
    show _ = pm_go _ _ _ CL_law (18, _, [], (SH, mm μ))
    rw [fr_mm h5.1]
end
section
/-! EQUATIONS BY HAND: what the program that writes equations left out (references read at a place that isn't known) -/
section HB
variable {L : Nat} {xs : Nat → Int} {d : Nat} {v : Nat → Nat → Int} {C : pm_C} {pc : Nat} {ls st : List pm_V}
theorem qG_1n {ins : Instr} {x : pm_A} {pc2 : Nat} {ls2 st2 : List pm_V} {σ σ2 : pm_S} (hf : pm_fetch C pc = some (ins, x)) (he : pm_exec (pm_E pm_T (pm_X0 L xs) pm_fc d) (pm_X0 L xs) pm_fc ins x pc ls st σ = pm_nx pc2 ls2 st2 σ2) : qG L xs d C pc ls st σ = qG L xs d C pc2 ls2 st2 σ2 := by
  rw [qG_1 hf, he]
  rfl
/-- a reference out of an array of references -/
theorem qG_aald {x : pm_A} {c e n : Nat} {k : Int} {t : Nat} (hf : pm_fetch C pc = some (.aaload, x)) (hs : pm_get SH c = some (1, e, n)) (he : e = 4 ∨ e = 5) (h0 : 0 ≤ k) (hn : k < (n : Int)) (hr : refAt c k.toNat = some (.ofNat t)) : qG L xs d C pc ls ((0, k) :: (2, .ofNat c) :: st) (qS v) = qG L xs d C (pc + 1) ls ((2, .ofNat t) :: st) (qS v) := by
  refine qG_1n hf ?_
  show (match pm_get (qS v).1 c with
    | some (1, e, n) => if e = 4 ∨ e = 5 then (if 0 ≤ k ∧ k < (n : Int) then pm_nx (pc + 1) ls ((2, (qS v).2 c k.toNat) :: st) (qS v) else none) else none
    | _ => none) = _
  rw [show pm_get (qS v).1 c = some (1, e, n) from hs]
  refine (if_pos he).trans ((if_pos ⟨h0, hn⟩).trans ?_)
  have : (qS v).2 c k.toNat = .ofNat t := by
    show (match refAt c k.toNat with
      | some z => z
      | none => v c k.toNat) = _
    rw [hr]
  rw [this]
theorem mm_at {c k : Nat} (h : refAt c k = none) : mm v c k = v c k := by
  unfold mm
  rw [h]
/-- a number out of an array whose cell isn't known -/
theorem qG_ald2 {ins : Instr} {x : pm_A} {c e t n : Nat} {k : Int} (hi : (ins = .iaload ∧ e = 0 ∧ t = 0) ∨ (ins = .laload ∧ e = 1 ∧ t = 1)) (hf : pm_fetch C pc = some (ins, x)) (hc : c < 1000) (hs : pm_get SH c = some (1, e, n)) (h0 : 0 ≤ k) (hn : k < (n : Int)) (hr : refAt c k.toNat = none) : qG L xs d C pc ls ((0, k) :: (2, .ofNat c) :: st) (qS v) = qG L xs d C (pc + 1) ls ((t, v c k.toNat) :: st) (qS v) := by
  refine qG_1n hf ?_
  have h1 : pm_aload (pm_X0 L xs) e t pc ls ((0, k) :: (2, .ofNat c) :: st) (qS v) = pm_nx (pc + 1) ls ((t, v c k.toNat) :: st) (qS v) := by
    have h : pm_arr (pm_X0 L xs) (qS v) c = some (e, n, mm v c) := by
      unfold pm_arr
      rw [if_neg (by omega), show pm_get (qS v).1 c = some (1, e, n) from hs]
      rfl
    show (match pm_arr (pm_X0 L xs) (qS v) c with
      | some (e0, n, f) => if e0 = e then (if 0 ≤ k ∧ k < (n : Int) then pm_nx (pc + 1) ls ((t, f k.toNat) :: st) (qS v) else none) else none
      | none => none) = _
    rw [h]
    refine (if_pos rfl).trans ((if_pos ⟨h0, hn⟩).trans ?_)
    rw [mm_at hr]
  rcases hi with ⟨rfl, rfl, rfl⟩ | ⟨rfl, rfl, rfl⟩
  · exact h1
  · exact h1
theorem qG_ast2 {ins : Instr} {x : pm_A} {c e n : Nat} {k z : Int} (hi : (ins = .iastore ∧ e = 0) ∨ (ins = .lastore ∧ e = 1)) (hf : pm_fetch C pc = some (ins, x)) (hs : pm_get SH c = some (1, e, n)) (h0 : 0 ≤ k) (hn : k < (n : Int)) (hr : refAt c k.toNat = none) : qG L xs d C pc ls ((e, z) :: (0, k) :: (2, .ofNat c) :: st) (qS v) = qG L xs d C (pc + 1) ls st (qS (pm_up v c k.toNat z)) := by
  refine qG_1n hf ?_
  have h1 : pm_astore e e pc ls ((e, z) :: (0, k) :: (2, .ofNat c) :: st) (qS v) = pm_nx (pc + 1) ls st (qS (pm_up v c k.toNat z)) := by
    rw [pm_astore_own (σ := qS v) hs (fun q => ?_) h0 hn]
    · show pm_nx (pc + 1) ls st (SH, pm_up (mm v) c k.toNat z) = _
      rw [mm_up hr]
      rfl
    · rcases hi with ⟨-, rfl⟩ | ⟨-, rfl⟩ <;> exact absurd q (by decide)
  rcases hi with ⟨rfl, rfl⟩ | ⟨rfl, rfl⟩
  · exact h1
  · exact h1
theorem row_ref {k : Int} (h0 : 0 ≤ k) (hn : k < 15) : refAt 2 k.toNat = some (.ofNat (3 + k.toNat)) := (by decide : ∀ j, j < 15 → refAt 2 j = some (.ofNat (3 + j))) k.toNat (by omega)
theorem row_get {k : Int} (h0 : 0 ≤ k) (hn : k < 15) : pm_get SH (3 + k.toNat) = some (1, 0, 30) := (by decide : ∀ j, j < 15 → pm_get SH (3 + j) = some (1, 0, 30)) k.toNat (by omega)
theorem row_nr {k : Int} (h0 : 0 ≤ k) (hn : k < 15) (i : Nat) : refAt (3 + k.toNat) i = none := by
  have : pm_get pm_refs (3 + k.toNat) = some [] := (by decide : ∀ j, j < 15 → pm_get pm_refs (3 + j) = some []) k.toNat (by omega)
  unfold refAt
  rw [this]
  rfl
theorem b_X9_value_14 (x1 x2 : Int) (h0 : 0 ≤ x1) (h1 : x1 < 15) (h2 : 0 ≤ x2) (h3 : x2 < 30) : qG L xs d CX9_value 14 [(2, 1), (0, x1), (0, x2)] [(0, x1), (2, 2)] (qS v) = qG L xs d CX9_value 17 [(2, 1), (0, x1), (0, x2)] [(0, v (3 + x1.toNat) x2.toNat)] (qS v) := by
  refine (qG_aald (c := 2) (e := 4) (n := 15) (t := 3 + x1.toNat) rfl rfl (Or.inl rfl) h0 h1 (row_ref h0 h1)).trans ?_
  rw [b_X9_value_15]
  exact qG_ald2 (Or.inl ⟨rfl, rfl, rfl⟩) rfl (by omega) (row_get h0 h1) h2 h3 (row_nr h0 h1 _)
theorem b_X9_set_14 (x1 x2 x3 : Int) (h0 : 0 ≤ x1) (h1 : x1 < 15) (h2 : 0 ≤ x2) (h3 : x2 < 30) : qG L xs d CX9_set 14 [(2, 1), (0, x1), (0, x2), (0, x3)] [(0, x1), (2, 2)] (qS v) = some (none, qS (pm_up v (3 + x1.toNat) x2.toNat x3)) := by
  refine (qG_aald (c := 2) (e := 4) (n := 15) (t := 3 + x1.toNat) rfl rfl (Or.inl rfl) h0 h1 (row_ref h0 h1)).trans ?_
  rw [b_X9_set_15]
  refine (qG_ast2 (Or.inl ⟨rfl, rfl⟩) rfl (row_get h0 h1) h2 h3 (row_nr h0 h1 _)).trans ?_
  exact b_X9_set_18 _ _ _
end HB
end
section
/-! CONTRACTS of Wall -/
section CW
variable {L : Nat} {xs : Nat → Int} {d : Nat} {v : Nat → Nat → Int}
def zb (c : Prop) [Decidable c] : Int := if c then 1 else 0
theorem zb_t {c : Prop} [Decidable c] (h : c) : zb c = 1 := if_pos h
theorem zb_f {c : Prop} [Decidable c] (h : ¬ c) : zb c = 0 := if_neg h
theorem zb_01 (c : Prop) [Decidable c] : zb c = 0 ∨ zb c = 1 := by
  by_cases h : c
  · exact Or.inr (zb_t h)
  · exact Or.inl (zb_f h)
/-- how many numbers of a sort there are -/
def hm (v : Nat → Nat → Int) (a : Int) : Int := if a = 0 ∨ a = 1 ∨ a = 2 then 30 else if a = 3 ∨ a = 4 ∨ a = 12 then v 1 1 else if a = 5 ∨ a = 6 ∨ a = 13 ∨ a = 14 then v 1 2 else if a = 7 then 2 else if a = 8 ∨ a = 9 ∨ a = 10 ∨ a = 11 then 1 else 0
theorem c_howMany (a : Int) : qE L xs (d + 1) nX9_howMany [(2, 1), (0, a)] (qS v) = some (some (0, hm v a), qS v) := by
  rw [e_X9_howMany]
  by_cases h : a < 0 ∨ 14 < a
  · rw [b_X9_howMany_0_o _ h, b_X9_howMany_93]
    unfold hm
    rw [if_neg (by omega), if_neg (by omega), if_neg (by omega), if_neg (by omega), if_neg (by omega)]
  · have h2 : a = 0 ∨ a = 1 ∨ a = 2 ∨ a = 3 ∨ a = 4 ∨ a = 5 ∨ a = 6 ∨ a = 7 ∨ a = 8 ∨ a = 9 ∨ a = 10 ∨ a = 11 ∨ a = 12 ∨ a = 13 ∨ a = 14 := by omega
    rcases h2 with rfl | rfl | rfl | rfl | rfl | rfl | rfl | rfl | rfl | rfl | rfl | rfl | rfl | rfl | rfl
    · rw [b_X9_howMany_0_v0 _ rfl, b_X9_howMany_76]; rfl
    · rw [b_X9_howMany_0_v1 _ rfl, b_X9_howMany_76]; rfl
    · rw [b_X9_howMany_0_v2 _ rfl, b_X9_howMany_76]; rfl
    · rw [b_X9_howMany_0_v3 _ rfl, b_X9_howMany_79]; rfl
    · rw [b_X9_howMany_0_v4 _ rfl, b_X9_howMany_79]; rfl
    · rw [b_X9_howMany_0_v5 _ rfl, b_X9_howMany_84]; rfl
    · rw [b_X9_howMany_0_v6 _ rfl, b_X9_howMany_84]; rfl
    · rw [b_X9_howMany_0_v7 _ rfl, b_X9_howMany_89]; rfl
    · rw [b_X9_howMany_0_v8 _ rfl, b_X9_howMany_91]; rfl
    · rw [b_X9_howMany_0_v9 _ rfl, b_X9_howMany_91]; rfl
    · rw [b_X9_howMany_0_v10 _ rfl, b_X9_howMany_91]; rfl
    · rw [b_X9_howMany_0_v11 _ rfl, b_X9_howMany_91]; rfl
    · rw [b_X9_howMany_0_v12 _ rfl, b_X9_howMany_79]; rfl
    · rw [b_X9_howMany_0_v13 _ rfl, b_X9_howMany_84]; rfl
    · rw [b_X9_howMany_0_v14 _ rfl, b_X9_howMany_84]; rfl
theorem c_has (a b : Int) : qE L xs (d + 2) nX9_has [(2, 1), (0, a), (0, b)] (qS v) = some (some (0, zb (0 ≤ b ∧ b < hm v a)), qS v) := by
  simp only [e_X9_has, b_X9_has_0, b_X9_has_4, b_X9_has_10, b_X9_has_13, b_X9_has_17, b_X9_has_18, c_howMany, qB_some, psh_some, or_true, true_or, ↓reduceIte]
  split
  · rw [zb_f (by omega)]
  · split
    · rw [zb_t (by omega)]
    · rw [zb_f (by omega)]
theorem c_yardsNow : qE L xs (d + 1) nX9_yardsNow [(2, 1)] (qS v) = some (some (0, v 11 0), qS v) := by
  rw [e_X9_yardsNow, b_X9_yardsNow_0]
theorem c_hasYard (a : Int) : qE L xs (d + 2) nX9_hasYard [(2, 1), (0, a)] (qS v) = some (some (0, zb (0 ≤ a ∧ a < v 11 0)), qS v) := by
  simp only [e_X9_hasYard, b_X9_hasYard_0, b_X9_hasYard_4, b_X9_hasYard_9, b_X9_hasYard_12, b_X9_hasYard_16, b_X9_hasYard_17, c_yardsNow, qB_some, psh_some, or_true, true_or, ↓reduceIte]
  split
  · rw [zb_f (by omega)]
  · split
    · rw [zb_t (by omega)]
    · rw [zb_f (by omega)]
theorem c_placesNow (h1 : 0 ≤ v 11 0) (h2 : v 11 0 ≤ 30) : qE L xs (d + 2) nX9_placesNow [(2, 1)] (qS v) = some (some (0, 2 * v 11 0), qS v) := by
  simp (disch := omega) only [e_X9_placesNow, b_X9_placesNow_0, b_X9_placesNow_5, c_yardsNow, qB_some, psh_some, w32_id]
theorem c_hasPlace (h1 : 0 ≤ v 11 0) (h2 : v 11 0 ≤ 30) (a : Int) : qE L xs (d + 3) nX9_hasPlace [(2, 1), (0, a)] (qS v) = some (some (0, zb (0 ≤ a ∧ a < 2 * v 11 0)), qS v) := by
  simp (disch := omega) only [e_X9_hasPlace, b_X9_hasPlace_0, b_X9_hasPlace_4, b_X9_hasPlace_9, b_X9_hasPlace_12, b_X9_hasPlace_16, b_X9_hasPlace_17, c_placesNow, qB_some, psh_some, or_true, true_or, ↓reduceIte]
  split
  · rw [zb_f (by omega)]
  · split
    · rw [zb_t (by omega)]
    · rw [zb_f (by omega)]
theorem c_value_in (a b : Int) (ha : 0 ≤ a) (ha2 : a < 15) (hb : 0 ≤ b) (hb2 : b < hm v a) (hb3 : b < 30) : qE L xs (d + 3) nX9_value [(2, 1), (0, a), (0, b)] (qS v) = some (some (0, v (3 + a.toNat) b.toNat), qS v) := by
  simp (disch := omega) only [e_X9_value, b_X9_value_0, b_X9_value_6, c_has, qB_some, psh_some, zb_t, b_X9_value_9, b_X9_value_14, b_X9_value_17, b_X9_value_21, ↓reduceIte, Int.reduceEq]
theorem c_set_in (a b z : Int) (ha : 0 ≤ a) (ha2 : a < 15) (hb : 0 ≤ b) (hb2 : b < hm v a) (hb3 : b < 30) : qE L xs (d + 3) nX9_set [(2, 1), (0, a), (0, b), (0, z)] (qS v) = some (none, qS (pm_up v (3 + a.toNat) b.toNat z)) := by
  simp (disch := omega) only [e_X9_set, b_X9_set_0, b_X9_set_6, c_has, qB_some, psh_some, zb_t, b_X9_set_9, b_X9_set_14, ↓reduceIte, Int.reduceEq]
end CW
end
section
/-! CONTRACTS, easy ones: the program's class and the reference, call by call -/
section CE
variable {L : Nat} {xs : Nat → Int} {d : Nat} {v : Nat → Nat → Int} {a b c x y z : Int}
theorem hm_12 : hm v 12 = v 1 1 := rfl
theorem hm_13 : hm v 13 = v 1 2 := rfl
theorem hm_14 : hm v 14 = v 1 2 := rfl
theorem up_eq (μ : Nat → Nat → Int) (c k : Nat) (x : Int) : pm_up μ c k x c k = x := if_pos ⟨rfl, rfl⟩
theorem up_ne {μ : Nat → Nat → Int} {c k a i : Nat} {x : Int} (h : a ≠ c ∨ i ≠ k) : pm_up μ c k x a i = μ a i := if_neg (by omega)
theorem c_addHole (h0 : 0 ≤ v 1 1) (h1 : v 1 1 < 12) (a : Int) : qE L xs (d + 4) nX9_addHole [(2, 1), (0, a)] (qS v) = some (some (0, v 1 1), qS (pm_up (pm_up v 1 1 (v 1 1 + 1)) 15 (v 1 1).toNat a)) := by
  rw [e_X9_addHole, b_X9_addHole_0, if_pos h1, b_X9_addHole_9, b_X9_addHole_19, up_eq]
  simp (disch := omega) only [w32_id]
  rw [c_set_in 12 _ _ (by omega) (by omega) (by omega) (by rw [hm_12, up_eq]; omega) (by omega), qB_some, psh_none, b_X9_addHole_32, up_ne (by omega), up_eq, w32_id (by omega) (by omega), show v 1 1 + 1 - 1 = v 1 1 by omega]
  rfl
theorem c_hole_bad (h : ¬ (0 ≤ a ∧ a < v 11 0)) : qE L xs (d + 6) nX11_hole [(2, 0), (0, a)] (qS v) = some (some (0, -1), qS v) := by
  simp (disch := omega) only [e_X11_hole, b_X11_hole_0, b_X11_hole_8, b_X11_hole_11, b_X11_hole_13, b_X11_hole_25, b_X11_hole_30, b_X11_hole_38, c_hasYard, zb_f, qB_some, psh_some, psh_none, and_true, true_and, and_false, false_and, and_self, or_true, true_or, or_false, false_or, not_true_eq_false, not_false_eq_true, ↓reduceIte, Int.reduceEq, Int.reduceLT, Int.reduceLE, Int.reduceToNat, Nat.reduceEqDiff, Nat.reduceAdd]
theorem c_hole_full (h : 0 ≤ a ∧ a < v 11 0) (h1 : 12 ≤ v 1 1) : qE L xs (d + 6) nX11_hole [(2, 0), (0, a)] (qS v) = some (some (0, -3), qS v) := by
  simp (disch := omega) only [e_X11_hole, b_X11_hole_0, b_X11_hole_8, b_X11_hole_11, b_X11_hole_13, b_X11_hole_25, b_X11_hole_30, b_X11_hole_38, c_hasYard, zb_t, if_neg, qB_some, psh_some, psh_none, and_true, true_and, and_false, false_and, and_self, or_true, true_or, or_false, false_or, not_true_eq_false, not_false_eq_true, ↓reduceIte, Int.reduceEq, Int.reduceLT, Int.reduceLE, Int.reduceToNat, Nat.reduceEqDiff, Nat.reduceAdd]
theorem c_hole_ok (h : 0 ≤ a ∧ a < v 11 0) (h0 : 0 ≤ v 1 1) (h1 : v 1 1 < 12) : qE L xs (d + 6) nX11_hole [(2, 0), (0, a)] (qS v) = some (some (0, v 1 1), qS (pm_up (pm_up v 1 1 (v 1 1 + 1)) 15 (v 1 1).toNat a)) := by
  simp (disch := omega) only [e_X11_hole, b_X11_hole_0, b_X11_hole_8, b_X11_hole_11, b_X11_hole_13, b_X11_hole_25, b_X11_hole_30, b_X11_hole_38, c_hasYard, zb_t, if_pos, c_addHole, qB_some, psh_some, psh_none, and_true, true_and, and_false, false_and, and_self, or_true, true_or, or_false, false_or, not_true_eq_false, not_false_eq_true, ↓reduceIte, Int.reduceEq, Int.reduceLT, Int.reduceLE, Int.reduceToNat, Nat.reduceEqDiff, Nat.reduceAdd]
theorem lc_lt {α : Type} {A B : α} : (if (if y < x then (1 : Int) else if x = y then 0 else -1) < 0 then A else B) = if x < y then A else B := by
  by_cases h : y < x
  · rw [if_pos h, if_neg (by omega), if_neg (by omega)]
  · rw [if_neg h]
    by_cases h2 : x = y
    · rw [if_pos h2, if_neg (by omega), if_neg (by omega)]
    · rw [if_neg h2, if_pos (by omega), if_pos (by omega)]
theorem lc_gt {α : Type} {A B : α} : (if 0 < (if y < x then (1 : Int) else if x = y then 0 else -1) then A else B) = if y < x then A else B := by
  by_cases h : y < x
  · rw [if_pos h, if_pos (by omega), if_pos h]
  · rw [if_neg h, if_neg h]
    by_cases h2 : x = y
    · rw [if_pos h2, if_neg (by omega)]
    · rw [if_neg h2, if_neg (by omega)]
theorem lc_eq {α : Type} {A B : α} : (if (if y < x then (1 : Int) else if x = y then 0 else -1) = 0 then A else B) = if x = y then A else B := by
  by_cases h : y < x
  · rw [if_pos h, if_neg (by omega), if_neg (by omega)]
  · rw [if_neg h]
    by_cases h2 : x = y
    · rw [if_pos h2, if_pos rfl, if_pos h2]
    · rw [if_neg h2, if_neg (by omega), if_neg h2]
theorem zb_0 {α : Type} {A B : α} {p : Prop} [Decidable p] : (if zb p = 0 then A else B) = if p then B else A := by
  by_cases h : p
  · rw [zb_t h, if_neg (by omega), if_pos h]
  · rw [zb_f h, if_pos rfl, if_neg h]
theorem zb_r {α : Type} {A B : α} {p : Prop} [Decidable p] : (if zb p = 0 ∨ zb p = 1 then A else B) = A := if_pos (zb_01 p)
theorem zb_c {p q : Prop} [Decidable p] [Decidable q] (h : p ↔ q) : zb p = zb q := by
  by_cases hp : p
  · rw [zb_t hp, zb_t (h.mp hp)]
  · rw [zb_f hp, zb_f (fun hq => hp (h.mpr hq))]
theorem ret_zb {p q : Prop} [Decidable p] [Decidable q] {σ : pm_S} (h : p ↔ q) : (some (some (0, zb p), σ) : Option pm_R) = some (some (0, zb q), σ) := by rw [zb_c h]
theorem c_within (a b c : Int) : qE L xs (d + 1) nX12_within [(1, a), (1, b), (1, c)] (qS v) = some (some (0, zb (b ≤ a ∧ a ≤ c)), qS v) := by
  simp only [e_X12_within, b_X12_within_0, b_X12_within_6, b_X12_within_13, b_X12_within_17, b_X12_within_18, lc_lt, lc_gt, qB_some, psh_some, psh_none, and_true, true_and, and_false, false_and, and_self, or_true, true_or, or_false, false_or, not_true_eq_false, not_false_eq_true, ↓reduceIte, Int.reduceEq, Int.reduceLT, Int.reduceLE, Int.reduceToNat, Nat.reduceEqDiff, Nat.reduceAdd]
  by_cases h1 : a < b
  · rw [if_pos h1, zb_f (by omega)]
  · by_cases h2 : c < a
    · rw [if_neg h1, if_pos h2, zb_f (by omega)]
    · rw [if_neg h1, if_neg h2, zb_t (by omega)]
theorem c_yardMany : qE L xs (d + 1) nX12_yardMany [(2, 63)] (qS v) = some (some (0, v 64 140), qS v) := by
  simp only [e_X12_yardMany, b_X12_yardMany_0, qB_some, psh_some, psh_none, and_true, true_and, and_false, false_and, and_self, or_true, true_or, or_false, false_or, not_true_eq_false, not_false_eq_true, ↓reduceIte, Int.reduceEq, Int.reduceLT, Int.reduceLE, Int.reduceToNat, Nat.reduceEqDiff, Nat.reduceAdd]
theorem c_isYard (h1 : 0 ≤ v 64 140) (h2 : v 64 140 ≤ 30) (a : Int) : qE L xs (d + 2) nX12_isYard [(2, 63), (1, a)] (qS v) = some (some (0, zb (0 ≤ a ∧ a < v 64 140)), qS v) := by
  simp (disch := omega) only [e_X12_isYard, b_X12_isYard_0, b_X12_isYard_6, b_X12_isYard_12, c_yardMany, c_within, w32_id, zb_r, qB_some, psh_some, psh_none, and_true, true_and, and_false, false_and, and_self, or_true, true_or, or_false, false_or, not_true_eq_false, not_false_eq_true, ↓reduceIte, Int.reduceEq, Int.reduceLT, Int.reduceLE, Int.reduceToNat, Nat.reduceEqDiff, Nat.reduceAdd]
  exact ret_zb (by omega)
theorem c_isPlace (h1 : 0 ≤ v 64 140) (h2 : v 64 140 ≤ 30) (a : Int) : qE L xs (d + 2) nX12_isPlace [(2, 63), (1, a)] (qS v) = some (some (0, zb (0 ≤ a ∧ a < 2 * v 64 140)), qS v) := by
  simp (disch := omega) only [e_X12_isPlace, b_X12_isPlace_0, b_X12_isPlace_7, b_X12_isPlace_14, c_yardMany, c_within, w32_id, zb_r, qB_some, psh_some, psh_none, and_true, true_and, and_false, false_and, and_self, or_true, true_or, or_false, false_or, not_true_eq_false, not_false_eq_true, ↓reduceIte, Int.reduceEq, Int.reduceLT, Int.reduceLE, Int.reduceToNat, Nat.reduceEqDiff, Nat.reduceAdd]
  exact ret_zb (by omega)
end CE
end
section
/-! THE FIRST STATE, number by number; THE LAW from there (written by wip/p1/24.fresh.py) -/
section FR
variable {v : Nat → Nat → Int}
theorem f_0_11 (h : Fresh v) : v 0 11 = 0 := fresh_at h 0 11 1 0 (by decide) 11 (by decide) (by decide)
theorem f_1_1 (h : Fresh v) : v 1 1 = 0 := fresh_at h 1 1 2 0 (by decide) 1 (by decide) (by decide)
theorem f_1_2 (h : Fresh v) : v 1 2 = 0 := fresh_at h 1 1 2 0 (by decide) 2 (by decide) (by decide)
theorem f_3_0_r (h : Fresh v) (i : Nat) (h1 : 0 ≤ i) (h2 : i < 30) : v 3 i = 4 := fresh_at h 3 0 30 4 (by decide) i h1 (by omega)
theorem f_4_0_r (h : Fresh v) (i : Nat) (h1 : 0 ≤ i) (h2 : i < 30) : v 4 i = 50 := fresh_at h 4 0 30 50 (by decide) i h1 (by omega)
theorem f_5_0_r (h : Fresh v) (i : Nat) (h1 : 0 ≤ i) (h2 : i < 30) : v 5 i = (-1) := fresh_at h 5 0 30 (-1) (by decide) i h1 (by omega)
theorem f_6_0_r (h : Fresh v) (i : Nat) (h1 : 0 ≤ i) (h2 : i < 30) : v 6 i = 1 := fresh_at h 6 0 30 1 (by decide) i h1 (by omega)
theorem f_7_0_r (h : Fresh v) (i : Nat) (h1 : 0 ≤ i) (h2 : i < 30) : v 7 i = 1 := fresh_at h 7 0 30 1 (by decide) i h1 (by omega)
theorem f_8_0_r (h : Fresh v) (i : Nat) (h1 : 0 ≤ i) (h2 : i < 30) : v 8 i = 1 := fresh_at h 8 0 30 1 (by decide) i h1 (by omega)
theorem f_9_0_r (h : Fresh v) (i : Nat) (h1 : 0 ≤ i) (h2 : i < 30) : v 9 i = 1 := fresh_at h 9 0 30 1 (by decide) i h1 (by omega)
theorem f_10_0_r (h : Fresh v) (i : Nat) (h1 : 0 ≤ i) (h2 : i < 30) : v 10 i = 2 := fresh_at h 10 0 30 2 (by decide) i h1 (by omega)
theorem f_11_0 (h : Fresh v) : v 11 0 = 12 := fresh_at h 11 0 30 12 (by decide) 0 (by decide) (by decide)
theorem f_11_0_r (h : Fresh v) (i : Nat) (h1 : 0 ≤ i) (h2 : i < 30) : v 11 i = 12 := fresh_at h 11 0 30 12 (by decide) i h1 (by omega)
theorem f_12_0 (h : Fresh v) : v 12 0 = 3 := fresh_at h 12 0 30 3 (by decide) 0 (by decide) (by decide)
theorem f_12_0_r (h : Fresh v) (i : Nat) (h1 : 0 ≤ i) (h2 : i < 30) : v 12 i = 3 := fresh_at h 12 0 30 3 (by decide) i h1 (by omega)
theorem f_13_0 (h : Fresh v) : v 13 0 = 1 := fresh_at h 13 0 30 1 (by decide) 0 (by decide) (by decide)
theorem f_13_0_r (h : Fresh v) (i : Nat) (h1 : 0 ≤ i) (h2 : i < 30) : v 13 i = 1 := fresh_at h 13 0 30 1 (by decide) i h1 (by omega)
theorem f_14_0 (h : Fresh v) : v 14 0 = 3 := fresh_at h 14 0 30 3 (by decide) 0 (by decide) (by decide)
theorem f_14_0_r (h : Fresh v) (i : Nat) (h1 : 0 ≤ i) (h2 : i < 30) : v 14 i = 3 := fresh_at h 14 0 30 3 (by decide) i h1 (by omega)
theorem f_18_4 (h : Fresh v) : v 18 4 = 0 := fresh_at h 18 4 2 0 (by decide) 4 (by decide) (by decide)
theorem f_18_5 (h : Fresh v) : v 18 5 = 0 := fresh_at h 18 4 2 0 (by decide) 5 (by decide) (by decide)
theorem f_23_1 (h : Fresh v) : v 23 1 = 25 := fresh_at h 23 1 1 25 (by decide) 1 (by decide) (by decide)
theorem f_23_2 (h : Fresh v) : v 23 2 = 26 := fresh_at h 23 2 1 26 (by decide) 2 (by decide) (by decide)
theorem f_23_5 (h : Fresh v) : v 23 5 = 0 := fresh_at h 23 5 6 0 (by decide) 5 (by decide) (by decide)
theorem f_23_10 (h : Fresh v) : v 23 10 = 0 := fresh_at h 23 5 6 0 (by decide) 10 (by decide) (by decide)
theorem f_38_0 (h : Fresh v) : v 38 0 = 39 := fresh_at h 38 0 1 39 (by decide) 0 (by decide) (by decide)
theorem f_38_1 (h : Fresh v) : v 38 1 = 40 := fresh_at h 38 1 1 40 (by decide) 1 (by decide) (by decide)
theorem f_42_0_r (h : Fresh v) (i : Nat) (h1 : 0 ≤ i) (h2 : i < 36) : v 42 i = 0 := fresh_at h 42 0 36 0 (by decide) i h1 (by omega)
theorem f_47_0 (h : Fresh v) : v 47 0 = 0 := fresh_at h 47 0 4 0 (by decide) 0 (by decide) (by decide)
theorem f_47_1 (h : Fresh v) : v 47 1 = 0 := fresh_at h 47 0 4 0 (by decide) 1 (by decide) (by decide)
theorem f_47_2 (h : Fresh v) : v 47 2 = 0 := fresh_at h 47 0 4 0 (by decide) 2 (by decide) (by decide)
theorem f_47_3 (h : Fresh v) : v 47 3 = 0 := fresh_at h 47 0 4 0 (by decide) 3 (by decide) (by decide)
theorem f_49_2 (h : Fresh v) : v 49 2 = 0 := fresh_at h 49 2 2 0 (by decide) 2 (by decide) (by decide)
theorem f_49_3 (h : Fresh v) : v 49 3 = 0 := fresh_at h 49 2 2 0 (by decide) 3 (by decide) (by decide)
theorem f_53_0_r (h : Fresh v) (i : Nat) (h1 : 0 ≤ i) (h2 : i < 6) : v 53 i = (-1) := fresh_at h 53 0 6 (-1) (by decide) i h1 (by omega)
theorem f_63_4 (h : Fresh v) : v 63 4 = 0 := fresh_at h 63 4 3 0 (by decide) 4 (by decide) (by decide)
theorem f_63_5 (h : Fresh v) : v 63 5 = 0 := fresh_at h 63 4 3 0 (by decide) 5 (by decide) (by decide)
theorem f_63_6 (h : Fresh v) : v 63 6 = 0 := fresh_at h 63 4 3 0 (by decide) 6 (by decide) (by decide)
theorem f_63_8 (h : Fresh v) : v 63 8 = 0 := fresh_at h 63 8 1 0 (by decide) 8 (by decide) (by decide)
theorem f_63_12 (h : Fresh v) : v 63 12 = 0 := fresh_at h 63 12 1 0 (by decide) 12 (by decide) (by decide)
theorem f_63_14 (h : Fresh v) : v 63 14 = (-1) := fresh_at h 63 14 1 (-1) (by decide) 14 (by decide) (by decide)
theorem f_63_22 (h : Fresh v) : v 63 22 = (-1) := fresh_at h 63 22 3 (-1) (by decide) 22 (by decide) (by decide)
theorem f_63_23 (h : Fresh v) : v 63 23 = (-1) := fresh_at h 63 22 3 (-1) (by decide) 23 (by decide) (by decide)
theorem f_63_24 (h : Fresh v) : v 63 24 = (-1) := fresh_at h 63 22 3 (-1) (by decide) 24 (by decide) (by decide)
theorem f_63_32 (h : Fresh v) : v 63 32 = 0 := fresh_at h 63 32 5 0 (by decide) 32 (by decide) (by decide)
theorem f_63_33 (h : Fresh v) : v 63 33 = 0 := fresh_at h 63 32 5 0 (by decide) 33 (by decide) (by decide)
theorem f_63_34 (h : Fresh v) : v 63 34 = 0 := fresh_at h 63 32 5 0 (by decide) 34 (by decide) (by decide)
theorem f_63_35 (h : Fresh v) : v 63 35 = 0 := fresh_at h 63 32 5 0 (by decide) 35 (by decide) (by decide)
theorem f_63_36 (h : Fresh v) : v 63 36 = 0 := fresh_at h 63 32 5 0 (by decide) 36 (by decide) (by decide)
theorem f_63_39 (h : Fresh v) : v 63 39 = 0 := fresh_at h 63 39 1 0 (by decide) 39 (by decide) (by decide)
theorem f_63_42 (h : Fresh v) : v 63 42 = 0 := fresh_at h 63 42 3 0 (by decide) 42 (by decide) (by decide)
theorem f_64_0_r (h : Fresh v) (i : Nat) (h1 : 0 ≤ i) (h2 : i < 30) : v 64 i = 4 := fresh_at h 64 0 30 4 (by decide) i h1 (by omega)
theorem f_64_30_r (h : Fresh v) (i : Nat) (h1 : 30 ≤ i) (h2 : i < 60) : v 64 i = 50 := fresh_at h 64 30 30 50 (by decide) i h1 (by omega)
theorem f_64_60_r (h : Fresh v) (i : Nat) (h1 : 60 ≤ i) (h2 : i < 90) : v 64 i = (-1) := fresh_at h 64 60 30 (-1) (by decide) i h1 (by omega)
theorem f_64_138_r (h : Fresh v) (i : Nat) (h1 : 138 ≤ i) (h2 : i < 140) : v 64 i = 2 := fresh_at h 64 138 2 2 (by decide) i h1 (by omega)
theorem f_64_140 (h : Fresh v) : v 64 140 = 12 := fresh_at h 64 140 1 12 (by decide) 140 (by decide) (by decide)
theorem f_64_141 (h : Fresh v) : v 64 141 = 3 := fresh_at h 64 141 1 3 (by decide) 141 (by decide) (by decide)
theorem f_64_142 (h : Fresh v) : v 64 142 = 1 := fresh_at h 64 142 1 1 (by decide) 142 (by decide) (by decide)
theorem f_64_143 (h : Fresh v) : v 64 143 = 3 := fresh_at h 64 143 1 3 (by decide) 143 (by decide) (by decide)
theorem f_79_0_r (h : Fresh v) (i : Nat) (h1 : 0 ≤ i) (h2 : i < 36) : v 79 i = 0 := fresh_at h 79 0 36 0 (by decide) i h1 (by omega)
theorem f_86_0_r (h : Fresh v) (i : Nat) (h1 : 0 ≤ i) (h2 : i < 6) : v 86 i = (-1) := fresh_at h 86 0 6 (-1) (by decide) i h1 (by omega)
/-- the reference's own numbers are those of the first state -/
def M0 (v : Nat → Nat → Int) : Prop := ∃ u, Fresh u ∧ ∀ c k, 63 ≤ c → v c k = u c k
theorem M0_of (h : Fresh v) : M0 v := ⟨v, h, fun _ _ _ => rfl⟩
theorem g_63_4 (h : M0 v) : v 63 4 = 0 := by
  obtain ⟨u, h1, h2⟩ := h
  rw [h2 _ _ (by decide), f_63_4 h1]
theorem g_63_5 (h : M0 v) : v 63 5 = 0 := by
  obtain ⟨u, h1, h2⟩ := h
  rw [h2 _ _ (by decide), f_63_5 h1]
theorem g_63_6 (h : M0 v) : v 63 6 = 0 := by
  obtain ⟨u, h1, h2⟩ := h
  rw [h2 _ _ (by decide), f_63_6 h1]
theorem g_63_8 (h : M0 v) : v 63 8 = 0 := by
  obtain ⟨u, h1, h2⟩ := h
  rw [h2 _ _ (by decide), f_63_8 h1]
theorem g_63_12 (h : M0 v) : v 63 12 = 0 := by
  obtain ⟨u, h1, h2⟩ := h
  rw [h2 _ _ (by decide), f_63_12 h1]
theorem g_63_14 (h : M0 v) : v 63 14 = (-1) := by
  obtain ⟨u, h1, h2⟩ := h
  rw [h2 _ _ (by decide), f_63_14 h1]
theorem g_63_22 (h : M0 v) : v 63 22 = (-1) := by
  obtain ⟨u, h1, h2⟩ := h
  rw [h2 _ _ (by decide), f_63_22 h1]
theorem g_63_23 (h : M0 v) : v 63 23 = (-1) := by
  obtain ⟨u, h1, h2⟩ := h
  rw [h2 _ _ (by decide), f_63_23 h1]
theorem g_63_24 (h : M0 v) : v 63 24 = (-1) := by
  obtain ⟨u, h1, h2⟩ := h
  rw [h2 _ _ (by decide), f_63_24 h1]
theorem g_63_32 (h : M0 v) : v 63 32 = 0 := by
  obtain ⟨u, h1, h2⟩ := h
  rw [h2 _ _ (by decide), f_63_32 h1]
theorem g_63_33 (h : M0 v) : v 63 33 = 0 := by
  obtain ⟨u, h1, h2⟩ := h
  rw [h2 _ _ (by decide), f_63_33 h1]
theorem g_63_34 (h : M0 v) : v 63 34 = 0 := by
  obtain ⟨u, h1, h2⟩ := h
  rw [h2 _ _ (by decide), f_63_34 h1]
theorem g_63_35 (h : M0 v) : v 63 35 = 0 := by
  obtain ⟨u, h1, h2⟩ := h
  rw [h2 _ _ (by decide), f_63_35 h1]
theorem g_63_36 (h : M0 v) : v 63 36 = 0 := by
  obtain ⟨u, h1, h2⟩ := h
  rw [h2 _ _ (by decide), f_63_36 h1]
theorem g_63_39 (h : M0 v) : v 63 39 = 0 := by
  obtain ⟨u, h1, h2⟩ := h
  rw [h2 _ _ (by decide), f_63_39 h1]
theorem g_63_42 (h : M0 v) : v 63 42 = 0 := by
  obtain ⟨u, h1, h2⟩ := h
  rw [h2 _ _ (by decide), f_63_42 h1]
theorem g_64_0_r (h : M0 v) (i : Nat) (h1 : 0 ≤ i) (h2 : i < 30) : v 64 i = 4 := by
  obtain ⟨u, h3, h4⟩ := h
  rw [h4 _ _ (by decide), f_64_0_r h3 i h1 h2]
theorem g_64_30_r (h : M0 v) (i : Nat) (h1 : 30 ≤ i) (h2 : i < 60) : v 64 i = 50 := by
  obtain ⟨u, h3, h4⟩ := h
  rw [h4 _ _ (by decide), f_64_30_r h3 i h1 h2]
theorem g_64_60_r (h : M0 v) (i : Nat) (h1 : 60 ≤ i) (h2 : i < 90) : v 64 i = (-1) := by
  obtain ⟨u, h3, h4⟩ := h
  rw [h4 _ _ (by decide), f_64_60_r h3 i h1 h2]
theorem g_64_138_r (h : M0 v) (i : Nat) (h1 : 138 ≤ i) (h2 : i < 140) : v 64 i = 2 := by
  obtain ⟨u, h3, h4⟩ := h
  rw [h4 _ _ (by decide), f_64_138_r h3 i h1 h2]
theorem g_64_140 (h : M0 v) : v 64 140 = 12 := by
  obtain ⟨u, h1, h2⟩ := h
  rw [h2 _ _ (by decide), f_64_140 h1]
theorem g_64_141 (h : M0 v) : v 64 141 = 3 := by
  obtain ⟨u, h1, h2⟩ := h
  rw [h2 _ _ (by decide), f_64_141 h1]
theorem g_64_142 (h : M0 v) : v 64 142 = 1 := by
  obtain ⟨u, h1, h2⟩ := h
  rw [h2 _ _ (by decide), f_64_142 h1]
theorem g_64_143 (h : M0 v) : v 64 143 = 3 := by
  obtain ⟨u, h1, h2⟩ := h
  rw [h2 _ _ (by decide), f_64_143 h1]
theorem g_79_0_r (h : M0 v) (i : Nat) (h1 : 0 ≤ i) (h2 : i < 36) : v 79 i = 0 := by
  obtain ⟨u, h3, h4⟩ := h
  rw [h4 _ _ (by decide), f_79_0_r h3 i h1 h2]
theorem g_86_0_r (h : M0 v) (i : Nat) (h1 : 0 ≤ i) (h2 : i < 6) : v 86 i = (-1) := by
  obtain ⟨u, h3, h4⟩ := h
  rw [h4 _ _ (by decide), f_86_0_r h3 i h1 h2]
end FR
end
