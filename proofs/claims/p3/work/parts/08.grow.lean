/-! THE STORE ONLY GROWS -/
/-- a store of cells only grows -/
def pm_gr (σ σ' : pm_S) : Prop := σ.1.length ≤ σ'.1.length ∧ pm_sl σ.1 ≤ pm_sl σ'.1
theorem pm_gr.rf (σ : pm_S) : pm_gr σ σ := ⟨Nat.le_refl _, Nat.le_refl _⟩
theorem pm_gr.tr {σ σ' σ'' : pm_S} (h : pm_gr σ σ') (h' : pm_gr σ' σ'') : pm_gr σ σ'' := ⟨Nat.le_trans h.1 h'.1, Nat.le_trans h.2 h'.2⟩
theorem pm_gr.app (σ : pm_S) (L : List (Nat × Nat × Nat)) (μ : Nat → Nat → Int) : pm_gr σ (σ.1 ++ L, μ) := ⟨by simp, by show pm_sl σ.1 ≤ pm_sl (σ.1 ++ L); rw [pm_sl_app]; omega⟩
def pm_grO (orc : pm_O) : Prop := ∀ y as σ rv σ', orc y as σ = some (rv, σ') → pm_gr σ σ'
theorem pm_call_gr {orc : pm_O} (ho : pm_grO orc) {y : Nat} {as rest : List pm_V} {pc : Nat} {ls : List pm_V} {σ : pm_S} {g : pm_F ⊕ pm_R} (h : pm_call orc y as rest pc ls σ = some g) : ∃ g', g = .inl g' ∧ pm_gr σ g'.2.2.2 := by
  unfold pm_call at h
  split at h
  · split at h
    · next rv σ' he => exact ⟨_, pm_nx_inv h, ho _ _ _ _ _ he⟩
    · cases h
  · cases h
theorem pm_getS_inv {k pc : Nat} {ls st : List pm_V} {σ : pm_S} {g : pm_F ⊕ pm_R} (h : pm_getS k pc ls st σ = some g) : ∃ i r v, st = (2, .ofNat i) :: r ∧ 2000 ≤ i ∧ i < 2010 ∧ ((k = 0 ∧ v = (2, .ofNat (i - 2000 + 1010))) ∨ (k ≠ 0 ∧ v = (0, 0))) ∧ g = .inl (pc + 3, ls, v :: r, σ) := by
  unfold pm_getS at h
  split at h
  · split at h
    · next hc =>
      split at h
      · exact ⟨_, _, _, rfl, hc.1, hc.2, Or.inl ⟨rfl, rfl⟩, pm_nx_inv h⟩
      · next hk => exact ⟨_, _, _, rfl, hc.1, hc.2, Or.inr ⟨hk, rfl⟩, pm_nx_inv h⟩
    · cases h
  · cases h
theorem pm_copy_inv {pc : Nat} {ls st : List pm_V} {σ : pm_S} {g : pm_F ⊕ pm_R} (h : pm_copy pc ls st σ = some g) : ∃ n dp d sp sr r ns nd t, st = (0, n) :: (0, dp) :: (2, .ofNat d) :: (0, sp) :: (2, .ofNat sr) :: r ∧ pm_get σ.1 sr = some (1, t, ns) ∧ pm_get σ.1 d = some (1, t, nd) ∧ pm_fit 4 r = true ∧ (t = 0 ∨ t = 1) ∧ 0 ≤ sp ∧ 0 ≤ dp ∧ 0 ≤ n ∧ sp + n ≤ (ns : Int) ∧ dp + n ≤ (nd : Int) ∧ g = .inl (pc + 3, ls, r, (σ.1, pm_cpy σ.2 sr d sp.toNat dp.toNat n.toNat)) := by
  unfold pm_copy at h
  split at h
  · split at h
    · next h1 h2 h3 =>
      split at h
      · next hc =>
        obtain ⟨hc1, hc2⟩ := hc
        subst hc2
        split at h
        · next hd => exact ⟨_, _, _, _, _, _, _, _, _, rfl, h1, h2, h3, hc1, hd.1, hd.2.1, hd.2.2.1, hd.2.2.2.1, hd.2.2.2.2, pm_nx_inv h⟩
        · cases h
      · cases h
    · cases h
  · cases h
theorem pm_call_inv {orc : pm_O} {y : Nat} {as rest : List pm_V} {pc : Nat} {ls : List pm_V} {σ : pm_S} {g : pm_F ⊕ pm_R} (h : pm_call orc y as rest pc ls σ = some g) : ∃ rv σ', pm_fit 4 rest = true ∧ orc y as σ = some (rv, σ') ∧ g = .inl (pc + 3, ls, pm_psh rv rest, σ') := by
  unfold pm_call at h
  split at h
  · next hf =>
    split at h
    · next rv σ' he => exact ⟨rv, σ', hf, he, pm_nx_inv h⟩
    · cases h
  · cases h
theorem pm_callS_inv {orc : pm_O} {y n : Nat} {pc : Nat} {ls st : List pm_V} {σ : pm_S} {g : pm_F ⊕ pm_R} (h : pm_callS orc y n pc ls st σ = some g) : ∃ as rest, pm_pop n [] st = some (as, rest) ∧ pm_call orc y as rest pc ls σ = some g := by
  unfold pm_callS at h
  split at h
  · next hp => exact ⟨_, _, hp, h⟩
  · cases h
theorem pm_callV_inv {orc : pm_O} {y n z : Nat} {pc : Nat} {ls st : List pm_V} {σ : pm_S} {g : pm_F ⊕ pm_R} (h : pm_callV orc y n z pc ls st σ = some g) : ∃ as rest, pm_pop (n + 1) [] st = some (as, rest) ∧ pm_recv z as σ = true ∧ pm_call orc y as rest pc ls σ = some g := by
  unfold pm_callV at h
  split at h
  · next hp =>
    split at h
    · next hr => exact ⟨_, _, hp, hr, h⟩
    · cases h
  · cases h
theorem pm_callI_inv {orc : pm_O} {y n : Nat} {pc : Nat} {ls st : List pm_V} {σ : pm_S} {g : pm_F ⊕ pm_R} (h : pm_callI orc y n pc ls st σ = some g) : ∃ as rest, pm_pop (n + 1) [] st = some (as, rest) ∧ pm_ref0 as = true ∧ pm_call orc y as rest pc ls σ = some g := by
  unfold pm_callI at h
  split at h
  · next hp =>
    split at h
    · next hr => exact ⟨_, _, hp, hr, h⟩
    · cases h
  · cases h
theorem pm_obj_inv {pc : Nat} {ls st : List pm_V} {σ : pm_S} {g : pm_F ⊕ pm_R} (h : pm_obj pc ls st σ = some g) : ∃ a r, st = (2, .ofNat a) :: r ∧ pm_fit 4 r = true ∧ g = .inl (pc + 3, ls, r, σ) := by
  unfold pm_obj at h
  split at h
  · split at h
    · next hf => exact ⟨_, _, rfl, hf, pm_nx_inv h⟩
    · cases h
  · cases h
theorem pm_m2_inv {f : Int → Int → Int} {pc : Nat} {ls st : List pm_V} {σ : pm_S} {g : pm_F ⊕ pm_R} (h : pm_m2 f pc ls st σ = some g) : ∃ x y r, st = (0, y) :: (0, x) :: r ∧ pm_fit 4 r = true ∧ g = .inl (pc + 3, ls, (0, f x y) :: r, σ) := by
  unfold pm_m2 at h
  split at h
  · split at h
    · next hf => exact ⟨_, _, _, rfl, hf, pm_nx_inv h⟩
    · cases h
  · cases h
theorem pm_m1_inv {f : Int → Int} {pc : Nat} {ls st : List pm_V} {σ : pm_S} {g : pm_F ⊕ pm_R} (h : pm_m1 f pc ls st σ = some g) : ∃ x r, st = (0, x) :: r ∧ pm_fit 4 r = true ∧ g = .inl (pc + 3, ls, (0, f x) :: r, σ) := by
  unfold pm_m1 at h
  split at h
  · split at h
    · next hf => exact ⟨_, _, rfl, hf, pm_nx_inv h⟩
    · cases h
  · cases h
def pm_grG (σ : pm_S) : pm_F ⊕ pm_R → Prop
  | .inl g' => pm_gr σ g'.2.2.2
  | .inr r => r.2 = σ
theorem pm_exec_gr {orc : pm_O} (ho : pm_grO orc) {X : pm_X} {fc : pm_K} {ins : Instr} {x : pm_A} {pc : Nat} {ls st : List pm_V} {σ : pm_S} {g : pm_F ⊕ pm_R} (h : pm_exec orc X fc ins x pc ls st σ = some g) : pm_grG σ g := by
  have nx : ∀ {pc' : Nat} {ls' st' : List pm_V}, pm_nx pc' ls' st' σ = some g → pm_grG σ g := fun h => by rw [pm_nx_inv h]; exact pm_gr.rf σ
  have inl : ∀ {pc' : Nat} {ls' st' : List pm_V}, g = .inl (pc', ls', st', σ) → pm_grG σ g := fun h => by rw [h]; exact pm_gr.rf σ
  have inm : ∀ {pc' : Nat} {ls' st' : List pm_V} {μ : Nat → Nat → Int}, g = .inl (pc', ls', st', (σ.1, μ)) → pm_grG σ g := fun h => by rw [h]; exact ⟨Nat.le_refl _, Nat.le_refl _⟩
  have ina : ∀ {pc' : Nat} {ls' st' : List pm_V} {L : List (Nat × Nat × Nat)} {μ : Nat → Nat → Int}, g = .inl (pc', ls', st', (σ.1 ++ L, μ)) → pm_grG σ g := fun h => by rw [h]; exact pm_gr.app σ _ _
  have inc : (∃ g', g = .inl g' ∧ pm_gr σ g'.2.2.2) → pm_grG σ g := fun h => by obtain ⟨g', h1, h2⟩ := h; rw [h1]; exact h2
  have ret : ∀ {t a : Nat}, pm_ret t a st σ = some g → pm_grG σ g := fun h => by
    unfold pm_ret at h
    split at h
    · split at h
      · cases h; rfl
      · cases h
    · cases h
  unfold pm_exec at h
  split at h
  all_goals first
    | exact nx h
    | exact (let ⟨_, _, h2⟩ := pm_ldi_inv h; inl h2)
    | exact (let ⟨_, _, h2⟩ := pm_ldl_inv h; inl h2)
    | exact (let ⟨_, _, h2⟩ := pm_lda_inv h; inl h2)
    | exact (let ⟨_, _, _, _, _, h2⟩ := pm_sti_inv h; inl h2)
    | exact (let ⟨_, _, _, _, _, h2⟩ := pm_sta_inv h; inl h2)
    | exact (let ⟨_, _, _, _, _, h2⟩ := pm_stl_inv h; inl h2)
    | exact (let ⟨_, _, _, _, h2⟩ := pm_inc_inv h; inl h2)
    | exact (let ⟨_, _, _, _, h2⟩ := pm_i2_inv h; inl h2)
    | exact (let ⟨_, _, _, _, _, h2⟩ := pm_d2_inv h; inl h2)
    | exact (let ⟨_, _, _, _, h2⟩ := pm_l2_inv h; inl h2)
    | exact (let ⟨_, _, _, h2⟩ := pm_u_inv h; inl h2)
    | exact (let ⟨_, _, _, _, _, _, _, _, _, h2⟩ := pm_aload_inv h; inl h2)
    | exact (let ⟨_, _, _, _, _, _, _, _, _, h2⟩ := pm_baload_inv h; inl h2)
    | exact (let ⟨_, _, _, _, _, _, _, _, _, _, h2⟩ := pm_aald_inv h; inl h2)
    | exact (let ⟨_, _, _, _, _, _, _, _, _, _, h2⟩ := pm_astore_inv h; inm h2)
    | exact (let ⟨_, _, _, _, _, _, _, h2⟩ := pm_alen_inv h; inl h2)
    | exact (let ⟨_, _, _, _, _, _, _, _, h2⟩ := pm_putf_inv h; inm h2)
    | exact (let ⟨_, h2⟩ := pm_newo_inv h; ina h2)
    | exact ret h
    | skip
  all_goals first
    | (split at h <;> first
        | (split at h <;> first | exact nx h | cases h)
        | exact nx h
        | exact (let ⟨_, _, _, _, _, _, h2⟩ := pm_newa_inv h; ina h2)
        | (cases h; first | rfl | exact pm_gr.rf σ)
        | skip)
    | skip
  all_goals first
    | exact (let ⟨_, _, _, _, _, _, h2⟩ := pm_getf_inv h; inl h2)
    | exact (let ⟨_, _, _, _, _, _, _, h2⟩ := pm_getS_inv h; inl h2)
    | exact (let ⟨_, _, _, _, _, _, _, _, _, h2⟩ := pm_mna_inv h; ina h2)
    | exact (let ⟨_, _, _, _, _, _, _, _, _, _, _, _, _, _, _, _, _, _, _, h2⟩ := pm_copy_inv h; inm h2)
    | exact (let ⟨_, _, _, h2⟩ := pm_callS_inv h; inc (pm_call_gr ho h2))
    | exact (let ⟨_, _, _, _, h2⟩ := pm_callV_inv h; inc (pm_call_gr ho h2))
    | exact (let ⟨_, _, _, _, h2⟩ := pm_callI_inv h; inc (pm_call_gr ho h2))
    | exact (let ⟨_, _, _, _, h2⟩ := pm_obj_inv h; inl h2)
    | exact (let ⟨_, _, _, _, _, h2⟩ := pm_m2_inv h; inl h2)
    | exact (let ⟨_, _, _, _, h2⟩ := pm_m1_inv h; inl h2)
    | cases h
theorem pm_run_gr {orc : pm_O} (ho : pm_grO orc) {X : pm_X} {fc : pm_K} {C : pm_C} {rv : Option pm_V} {σ' : pm_S} : ∀ {n : Nat} {g : pm_F}, pm_run orc X fc C n g = some (rv, σ') → pm_gr g.2.2.2 σ'
  | 0, g, h => by cases h
  | n + 1, g, h => by
    rw [pm_run] at h
    cases hs : pm_step orc X fc C g with
    | none => rw [hs] at h; cases h
    | some q =>
      rw [hs] at h
      have h1 : pm_grG g.2.2.2 q := by
        unfold pm_step at hs
        split at hs
        · exact pm_exec_gr ho hs
        · cases hs
      cases q with
      | inl g' => exact pm_gr.tr h1 (pm_run_gr ho (n := n) h)
      | inr r =>
        cases h
        have h2 : σ' = g.2.2.2 := h1
        rw [h2]
        exact pm_gr.rf _
theorem pm_E_gr {T : List pm_M} {X : pm_X} {fc : pm_K} : ∀ d, pm_grO (pm_E T X fc d)
  | 0 => fun y as σ rv σ' h => by cases h
  | d + 1 => fun y as σ rv σ' h => by
    unfold pm_E at h
    split at h
    · split at h
      · obtain ⟨n, hn⟩ := pm_go_iff.mp h
        exact pm_run_gr (pm_E_gr d) hn
      · cases h
    · cases h


