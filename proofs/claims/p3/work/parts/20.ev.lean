/-! THE FIRST STATE: a machine that counts (with fuel, and numbers made plain at each step) goes where the pure machine goes; so both constructors are run by the kernel -/
abbrev pm_oL (o o' : pm_O) : Prop := ∀ y a σ r, o y a σ = some r → o' y a σ = some r
abbrev pm_xL (X X' : pm_X) : Prop := ∀ j r, X j = some r → X' j = some r
section EV
variable {o o' : pm_O} {X X' : pm_X} {fc : pm_K} {pc : Nat} {ls st : List pm_V} {σ : pm_S} {q : pm_F ⊕ pm_R}
theorem pm_arr_mono (hX : pm_xL X X') {i : Nat} {r : Nat × Nat × (Nat → Int)} (h : pm_arr X σ i = some r) : pm_arr X' σ i = some r := by
  unfold pm_arr at h ⊢
  by_cases hi : 1000 ≤ i
  · rw [if_pos hi] at h ⊢
    exact hX _ _ h
  · rw [if_neg hi] at h ⊢
    exact h
theorem pm_aload_mono (hX : pm_xL X X') {e t : Nat} (h : pm_aload X e t pc ls st σ = some q) : pm_aload X' e t pc ls st σ = some q := by
  unfold pm_aload at h ⊢
  split at h
  · rename_i k i r
    cases ha : pm_arr X σ i with
    | none => rw [ha] at h; cases h
    | some w =>
      rw [ha] at h
      rw [pm_arr_mono hX ha]
      exact h
  · cases h
theorem pm_baload_mono (hX : pm_xL X X') (h : pm_baload X pc ls st σ = some q) : pm_baload X' pc ls st σ = some q := by
  unfold pm_baload at h ⊢
  split at h
  · rename_i k i r
    cases ha : pm_arr X σ i with
    | none => rw [ha] at h; cases h
    | some w =>
      rw [ha] at h
      rw [pm_arr_mono hX ha]
      exact h
  · cases h
theorem pm_alen_mono (hX : pm_xL X X') (h : pm_alen X pc ls st σ = some q) : pm_alen X' pc ls st σ = some q := by
  unfold pm_alen at h ⊢
  split at h
  · rename_i i r
    cases ha : pm_arr X σ i with
    | none => rw [ha] at h; cases h
    | some w =>
      rw [ha] at h
      rw [pm_arr_mono hX ha]
      exact h
  · cases h
theorem pm_call_mono (ho : pm_oL o o') {y : Nat} {as rest : List pm_V} (h : pm_call o y as rest pc ls σ = some q) : pm_call o' y as rest pc ls σ = some q := by
  unfold pm_call at h ⊢
  split at h
  · rename_i hf
    cases hr : o y as σ with
    | none => rw [hr] at h; cases h
    | some r =>
      rw [hr] at h
      rw [ho _ _ _ _ hr]
      exact h
  · cases h
theorem pm_callS_mono (ho : pm_oL o o') {y n : Nat} (h : pm_callS o y n pc ls st σ = some q) : pm_callS o' y n pc ls st σ = some q := by
  unfold pm_callS at h ⊢
  split at h
  · exact pm_call_mono ho h
  · cases h
theorem pm_callV_mono (ho : pm_oL o o') {y n z : Nat} (h : pm_callV o y n z pc ls st σ = some q) : pm_callV o' y n z pc ls st σ = some q := by
  unfold pm_callV at h ⊢
  split at h
  · split at h
    · exact pm_call_mono ho h
    · cases h
  · cases h
theorem pm_callI_mono (ho : pm_oL o o') {y n : Nat} (h : pm_callI o y n pc ls st σ = some q) : pm_callI o' y n pc ls st σ = some q := by
  unfold pm_callI at h ⊢
  split at h
  · split at h
    · exact pm_call_mono ho h
    · cases h
  · cases h
theorem pm_exec_mono (ho : pm_oL o o') (hX : pm_xL X X') {ins : Instr} {x : pm_A} (h : pm_exec o X fc ins x pc ls st σ = some q) : pm_exec o' X' fc ins x pc ls st σ = some q := by
  cases ins
  case iaload => exact pm_aload_mono hX h
  case laload => exact pm_aload_mono hX h
  case baload => exact pm_baload_mono hX h
  case arraylength => exact pm_alen_mono hX h
  case invokevirtual i => exact pm_callV_mono (n := x.2.1) ho h
  case invokespecial i =>
    unfold pm_exec at h ⊢
    dsimp only at h ⊢
    split at h
    · exact h
    · exact pm_callI_mono ho h
  case invokestatic i =>
    unfold pm_exec at h ⊢
    dsimp only at h ⊢
    split at h
    · exact h
    · exact h
    · exact h
    · exact h
    · exact pm_callS_mono ho h
  all_goals exact h
theorem pm_step_mono (ho : pm_oL o o') (hX : pm_xL X X') {C : pm_C} {g : pm_F} (h : pm_step o X fc C g = some q) : pm_step o' X' fc C g = some q := by
  unfold pm_step at h ⊢
  split at h
  · exact pm_exec_mono ho hX h
  · cases h
end EV
def pm_frN {α : Type} (n : Nat) (k : Nat → α) : α := match n with
  | 0 => k 0
  | m + 1 => k (Nat.succ m)
def pm_frI {α : Type} (z : Int) (k : Int → α) : α := match z with
  | .ofNat n => pm_frN n (fun n => k (.ofNat n))
  | .negSucc n => pm_frN n (fun n => k (.negSucc n))
def pm_frV {α : Type} (v : pm_V) (k : pm_V → α) : α := match v with
  | (t, z) => pm_frN t (fun t => pm_frI z (fun z => k (t, z)))
def pm_frL {α : Type} : List pm_V → (List pm_V → α) → α
  | [], k => k []
  | a :: l, k => pm_frV a (fun a => pm_frL l (fun l => k (a :: l)))
def pm_frH {α : Type} : List (Nat × Nat × Nat) → (List (Nat × Nat × Nat) → α) → α
  | [], k => k []
  | (a, b, c) :: l, k => pm_frN a (fun a => pm_frN b (fun b => pm_frN c (fun c => pm_frH l (fun l => k ((a, b, c) :: l)))))
theorem pm_frN_eq {α : Type} (n : Nat) (k : Nat → α) : pm_frN n k = k n := by cases n <;> rfl
theorem pm_frI_eq {α : Type} (z : Int) (k : Int → α) : pm_frI z k = k z := by
  cases z with
  | ofNat n => exact pm_frN_eq n (fun n => k (.ofNat n))
  | negSucc n => exact pm_frN_eq n (fun n => k (.negSucc n))
theorem pm_frV_eq {α : Type} (v : pm_V) (k : pm_V → α) : pm_frV v k = k v := by
  obtain ⟨t, z⟩ := v
  unfold pm_frV
  dsimp only
  rw [pm_frN_eq, pm_frI_eq]
theorem pm_frL_eq {α : Type} : ∀ (l : List pm_V) (k : List pm_V → α), pm_frL l k = k l
  | [], k => rfl
  | a :: l, k => by
    unfold pm_frL
    rw [pm_frV_eq, pm_frL_eq l]
theorem pm_frH_eq {α : Type} : ∀ (l : List (Nat × Nat × Nat)) (k : List (Nat × Nat × Nat) → α), pm_frH l k = k l
  | [], k => rfl
  | (a, b, c) :: l, k => by
    unfold pm_frH
    rw [pm_frN_eq, pm_frN_eq, pm_frN_eq, pm_frH_eq l]
def pm_isN (ins : Instr) : Bool := match ins with
  | .new _ => true
  | .newarray _ => true
  | .multianewarray _ _ => true
  | _ => false
def pm_st1 (orc : pm_O) (X : pm_X) (fc : pm_K) (C : pm_C) (g : pm_F) : Option (pm_F ⊕ pm_R) := match g with
  | (pc, ls, st, σ) => match pm_fetch C pc with
    | some (ins, x) => (match pm_exec orc X fc ins x pc ls st σ with
      | some (.inl (pc, ls, st, (h, μ))) => pm_frN pc (fun pc => pm_frL ls (fun ls => pm_frL st (fun st => (match pm_isN ins with
        | true => pm_frH h (fun h => some (.inl (pc, ls, st, (h, μ))))
        | false => some (.inl (pc, ls, st, (h, μ)))))))
      | some (.inr r) => some (.inr r)
      | none => none)
    | none => none
theorem pm_st1_eq (orc : pm_O) (X : pm_X) (fc : pm_K) (C : pm_C) (g : pm_F) : pm_st1 orc X fc C g = pm_step orc X fc C g := by
  obtain ⟨pc, ls, st, σ⟩ := g
  unfold pm_st1 pm_step
  dsimp only
  cases pm_fetch C pc with
  | none => rfl
  | some w =>
    obtain ⟨ins, x⟩ := w
    dsimp only
    cases pm_exec orc X fc ins x pc ls st σ with
    | none => rfl
    | some q =>
      cases q with
      | inl g =>
        obtain ⟨pc, ls, st, h, μ⟩ := g
        dsimp only
        rw [pm_frN_eq, pm_frL_eq, pm_frL_eq]
        cases pm_isN ins with
        | true => exact pm_frH_eq h (fun h => (some (Sum.inl (pc, ls, st, (h, μ))) : Option (pm_F ⊕ pm_R)))
        | false => rfl
      | inr r => rfl
def pm_rnf (orc : pm_O) (X : pm_X) (fc : pm_K) (C : pm_C) : Nat → pm_F → Option pm_R
  | 0, _ => none
  | n + 1, g => match pm_st1 orc X fc C g with
    | some (.inl g') => pm_rnf orc X fc C n g'
    | some (.inr r) => some r
    | none => none
theorem pm_rnf_run {o o' : pm_O} {X X' : pm_X} {fc : pm_K} {C : pm_C} (ho : pm_oL o o') (hX : pm_xL X X') {r : pm_R} : ∀ {n : Nat} {g : pm_F}, pm_rnf o X fc C n g = some r → pm_run o' X' fc C n g = some r
  | 0, g, h => by cases h
  | n + 1, g, h => by
    unfold pm_rnf at h
    unfold pm_run
    rw [pm_st1_eq] at h
    cases hs : pm_step o X fc C g with
    | none => rw [hs] at h; cases h
    | some q =>
      rw [hs] at h
      rw [pm_step_mono ho hX hs]
      cases q with
      | inl g' => exact pm_rnf_run ho hX h
      | inr r' => exact h
/-- Arrays.fill at once -/
def pm_fil (a : List pm_V) (σ : pm_S) : Option pm_R := match a with
  | [(2, .ofNat c), (0, z)] => (match pm_get σ.1 c with
    | some (1, 0, n) => (match Nat.blt c 1000 && Nat.blt n 2147483648 with
      | true => some (none, (σ.1, pm_fl σ.2 c 0 n z))
      | false => none)
    | _ => none)
  | _ => none
theorem pm_fil_E {L : Nat} {xs : Nat → Int} {d : Nat} {a : List pm_V} {σ : pm_S} {r : pm_R} (h : pm_fil a σ = some r) : pm_E pm_T (pm_X0 L xs) pm_fc (d + 1) nJ7_fill_53178 a σ = some r := by
  unfold pm_fil at h
  split at h
  · rename_i c z
    cases hg : pm_get σ.1 c with
    | none => rw [hg] at h; cases h
    | some w =>
      rw [hg] at h
      obtain ⟨w1, w2, n'⟩ := w
      match w1, w2, hg, h with
      | 0, _, _, h => cases h
      | k + 2, _, _, h => cases h
      | 1, k + 1, _, h => cases h
      | 1, 0, hg, h =>
        cases hb : (Nat.blt c 1000 && Nat.blt n' 2147483648) with
        | false => simp only [hb] at h; cases h
        | true =>
          simp only [hb] at h
          have hb' := Bool.and_eq_true_iff.mp hb
          have b1 : c < 1000 := Nat.blt_eq.mp hb'.1
          have b2 : n' < 2147483648 := Nat.blt_eq.mp hb'.2
          rw [← h]
          exact fi_all b1 hg b2
  · cases h
def pm_ev (X : pm_X) (n : Nat) : Nat → pm_O
  | 0 => fun _ _ _ => none
  | d + 1 => fun y args σ => match Nat.beq y nJ7_fill_53178 with
    | true => pm_fil args σ
    | false => (match pm_get pm_T y with
      | some M => (match Nat.ble (pm_spr args).length M.2.2.1 with
        | true => pm_rnf (pm_ev X n d) X pm_fc M.2.2.2.2 n (0, pm_pad M.2.2.1 (pm_spr args), [], σ)
        | false => none)
      | none => none)
theorem pm_ev_E {X : pm_X} {L : Nat} {xs : Nat → Int} {n : Nat} (hX : pm_xL X (pm_X0 L xs)) : ∀ {d d' : Nat}, d ≤ d' → pm_oL (pm_ev X n d) (pm_E pm_T (pm_X0 L xs) pm_fc d')
  | 0, _, _ => fun y a σ r h => by cases h
  | d + 1, 0, hd => absurd hd (by omega)
  | d + 1, d' + 1, hd => fun y a σ r h => by
    unfold pm_ev at h
    cases hy : Nat.beq y nJ7_fill_53178 with
    | true =>
      have h2 : pm_fil a σ = some r := by
        rw [← h]
        simp only [hy]
      have hy' := Nat.eq_of_beq_eq_true hy
      subst hy'
      exact pm_fil_E h2
    | false =>
      simp only [hy] at h
      unfold pm_E
      cases hT : pm_get pm_T y with
      | none => rw [hT] at h; cases h
      | some M =>
        rw [hT] at h
        cases hb : Nat.ble (pm_spr a).length M.2.2.1 with
        | false => simp only [hb] at h; cases h
        | true =>
          simp only [hb] at h ⊢
          exact pm_go_iff.mpr ⟨n, pm_rnf_run (pm_ev_E hX (by omega)) hX h⟩
/-- some steps at the top -/
def pm_sf (orc : pm_O) (X : pm_X) (fc : pm_K) (C : pm_C) : Nat → pm_F → Option pm_F
  | 0, g => some g
  | k + 1, g => match pm_st1 orc X fc C g with
    | some (.inl g') => pm_sf orc X fc C k g'
    | _ => none
theorem pm_sf_go {o o' : pm_O} {X X' : pm_X} {fc : pm_K} {C : pm_C} (ho : pm_oL o o') (hX : pm_xL X X') : ∀ {k : Nat} {g g' : pm_F}, pm_sf o X fc C k g = some g' → pm_go o' X' fc C g = pm_go o' X' fc C g'
  | 0, g, g', h => by
    unfold pm_sf at h
    cases h
    rfl
  | k + 1, g, g', h => by
    unfold pm_sf at h
    rw [pm_st1_eq] at h
    cases hs : pm_step o X fc C g with
    | none => rw [hs] at h; cases h
    | some q =>
      rw [hs] at h
      cases q with
      | inl g1 =>
        rw [pm_go_step, pm_step_mono ho hX hs]
        exact pm_sf_go ho hX h
      | inr r => cases h
/-- without the script -/
def pm_X1 : pm_X := fun j => if j = 5 then none else pm_X0 0 (fun _ => 0) j
theorem pm_X1_le (L : Nat) (xs : Nat → Int) : pm_xL pm_X1 (pm_X0 L xs) := fun j r h => by
  unfold pm_X1 at h
  by_cases hj : j = 5
  · rw [if_pos hj] at h; cases h
  · rw [if_neg hj] at h
    unfold pm_X0 at h ⊢
    rw [if_neg hj] at h ⊢
    exact h
def fr_end : Option pm_F := pm_sf (pm_ev pm_X1 2000 30) pm_X1 pm_fc CL_law 10 (0, [(2, 1005), (9, 0), (9, 0), (9, 0)], [], ([], fun _ _ => 0))
/-- what numbers stand there: cell, first place, how many, each -/
def fr_facts : List (Nat × Nat × Nat × Int) := [(0, 11, 1, 0), (1, 1, 2, 0), (3, 0, 30, 4), (4, 0, 30, 50), (5, 0, 30, (-1)), (6, 0, 30, 1), (7, 0, 30, 1), (8, 0, 30, 1), (9, 0, 30, 1), (10, 0, 30, 2), (11, 0, 30, 12), (12, 0, 30, 3), (13, 0, 30, 1), (14, 0, 30, 3), (18, 4, 2, 0), (23, 1, 1, 25), (23, 2, 1, 26), (23, 5, 6, 0), (29, 8, 2, 0), (38, 0, 1, 39), (38, 1, 1, 40), (38, 2, 1, 0), (42, 0, 36, 0), (47, 0, 4, 0), (48, 0, 4, 0), (49, 2, 2, 0), (53, 0, 6, (-1)), (63, 4, 3, 0), (63, 8, 1, 0), (63, 12, 1, 0), (63, 14, 1, (-1)), (63, 15, 5, 0), (63, 22, 3, (-1)), (63, 32, 5, 0), (63, 39, 1, 0), (63, 42, 3, 0), (64, 0, 30, 4), (64, 30, 30, 50), (64, 60, 30, (-1)), (64, 90, 48, 0), (64, 138, 2, 2), (64, 140, 1, 12), (64, 141, 1, 3), (64, 142, 1, 1), (64, 143, 1, 3), (79, 0, 36, 0), (86, 0, 6, (-1))]
def fr_row (μ : Nat → Nat → Int) (c : Nat) : Nat → List (Option Int) → Bool
  | _, [] => true
  | k, none :: l => fr_row μ c (k + 1) l
  | k, some z :: l => decide (μ c k = z) && fr_row μ c (k + 1) l
def fr_rows (μ : Nat → Nat → Int) : Nat → List (List (Option Int)) → Bool
  | _, [] => true
  | c, l :: ls => fr_row μ c 0 l && fr_rows μ (c + 1) ls
def fr_rg (μ : Nat → Nat → Int) (c k : Nat) (z : Int) : Nat → Bool
  | 0 => true
  | n + 1 => decide (μ c (k + n) = z) && fr_rg μ c k z n
def fr_ok (g : Option pm_F) : Bool := match g with
  | some (pc, ls, st, (h, μ)) => decide (pc = 18) && (decide (ls = [(2, 1005), (2, 0), (2, 63), (0, 0)]) && (decide (st = []) && (decide (h = SH) && (fr_rows μ 0 pm_refs && fr_facts.all (fun q => fr_rg μ q.1 q.2.1 q.2.2.2 q.2.2.1)))))
  | none => false
theorem fr_is : fr_ok fr_end = true := by decide +kernel
theorem fr_row_at {μ : Nat → Nat → Int} {c : Nat} {z : Int} : ∀ {l : List (Option Int)} {k i : Nat}, fr_row μ c k l = true → pm_get l i = some (some z) → μ c (k + i) = z
  | [], k, i, _, h => by unfold pm_get at h; cases h
  | none :: l, k, 0, _, h => by unfold pm_get at h; cases h
  | some w :: l, k, 0, h1, h => by
    unfold pm_get at h
    cases h
    unfold fr_row at h1
    exact of_decide_eq_true (Bool.and_eq_true_iff.mp h1).1
  | none :: l, k, i + 1, h1, h => by
    unfold pm_get at h
    unfold fr_row at h1
    have := fr_row_at h1 h
    rw [show k + (i + 1) = k + 1 + i by omega]
    exact this
  | some w :: l, k, i + 1, h1, h => by
    unfold pm_get at h
    unfold fr_row at h1
    have := fr_row_at (Bool.and_eq_true_iff.mp h1).2 h
    rw [show k + (i + 1) = k + 1 + i by omega]
    exact this
theorem fr_rows_at {μ : Nat → Nat → Int} {l : List (Option Int)} : ∀ {ls : List (List (Option Int))} {c i : Nat}, fr_rows μ c ls = true → pm_get ls i = some l → fr_row μ (c + i) 0 l = true
  | [], c, i, _, h => by unfold pm_get at h; cases h
  | w :: ls, c, 0, h1, h => by
    unfold pm_get at h
    cases h
    unfold fr_rows at h1
    exact (Bool.and_eq_true_iff.mp h1).1
  | w :: ls, c, i + 1, h1, h => by
    unfold pm_get at h
    unfold fr_rows at h1
    have := fr_rows_at (Bool.and_eq_true_iff.mp h1).2 h
    rw [show c + (i + 1) = c + 1 + i by omega]
    exact this
theorem fr_mm {μ : Nat → Nat → Int} (h : fr_rows μ 0 pm_refs = true) : mm μ = μ := by
  funext c k
  show (match refAt c k with
    | some z => z
    | none => μ c k) = μ c k
  cases hr : refAt c k with
  | none => rfl
  | some z =>
    dsimp only
    unfold refAt at hr
    cases h1 : pm_get pm_refs c with
    | none => rw [h1] at hr; cases hr
    | some l =>
      rw [h1] at hr
      dsimp only at hr
      cases h2 : pm_get l k with
      | none => rw [h2] at hr; cases hr
      | some w =>
        rw [h2] at hr
        dsimp only at hr
        subst hr
        have h3 := fr_row_at (fr_rows_at h h1) h2
        rw [Nat.zero_add, Nat.zero_add] at h3
        exact h3.symm
theorem fr_rg_at {μ : Nat → Nat → Int} {c k : Nat} {z : Int} : ∀ {n i : Nat}, fr_rg μ c k z n = true → i < n → μ c (k + i) = z
  | 0, i, _, h => absurd h (by omega)
  | n + 1, i, h1, h => by
    unfold fr_rg at h1
    have h2 := Bool.and_eq_true_iff.mp h1
    by_cases hi : i = n
    · subst hi
      exact of_decide_eq_true h2.1
    · exact fr_rg_at h2.2 (by omega)
/-- what the first state's numbers are -/
def Fresh (v : Nat → Nat → Int) : Prop := fr_facts.all (fun q => fr_rg v q.1 q.2.1 q.2.2.2 q.2.2.1) = true
theorem fresh_at {v : Nat → Nat → Int} (h : Fresh v) (c k n : Nat) (z : Int) (hm : (c, k, n, z) ∈ fr_facts) (i : Nat) (hi : k ≤ i) (hn : i < k + n) : v c i = z := by
  have h1 := fr_rg_at (i := i - k) (List.all_eq_true.mp h _ hm) (by dsimp only; omega)
  dsimp only at h1
  rw [show k + (i - k) = i by omega] at h1
  exact h1
theorem pm_fresh (L : Nat) (xs : Nat → Int) : ∃ v, Fresh v ∧ pm_go (pm_E pm_T (pm_X0 L xs) pm_fc 1000) (pm_X0 L xs) pm_fc CL_law (0, [(2, 1005), (9, 0), (9, 0), (9, 0)], [], ([], fun _ _ => 0)) = qG L xs 1000 CL_law 18 [(2, 1005), (2, 0), (2, 63), (0, 0)] [] (qS v) := by
  have h := fr_is
  cases hg : fr_end with
  | none => rw [hg] at h; cases h
  | some g =>
    obtain ⟨pc, ls, st, hp, μ⟩ := g
    rw [hg] at h
    unfold fr_ok at h
    dsimp only at h
    have h1 := Bool.and_eq_true_iff.mp h
    have h2 := Bool.and_eq_true_iff.mp h1.2
    have h3 := Bool.and_eq_true_iff.mp h2.2
    have h4 := Bool.and_eq_true_iff.mp h3.2
    have h5 := Bool.and_eq_true_iff.mp h4.2
    have e1 := of_decide_eq_true h1.1
    have e2 := of_decide_eq_true h2.1
    have e3 := of_decide_eq_true h3.1
    have e4 := of_decide_eq_true h4.1
    subst e1 e2 e3 e4
    refine ⟨μ, h5.2, ?_⟩
    unfold fr_end at hg
    rw [pm_sf_go (pm_ev_E (pm_X1_le L xs) (by decide)) (pm_X1_le L xs) hg]
    show _ = pm_go _ _ _ CL_law (18, _, [], (SH, mm μ))
    rw [fr_mm h5.1]


