/-! THE FIRST STATE's calls: the nights of frost (all yards alike) -/
section FO
variable {L : Nat} {xs : Nat → Int} {d : Nat} {v u : Nat → Nat → Int} {w x : Nat} {c : Int}
abbrev FrW (w x : Nat) : Prop := (w = 39 ∧ x = 40) ∨ (w = 40 ∧ x = 39)
def FrI (u v : Nat → Nat → Int) (c : Int) (w x : Nat) : Prop := Fresh u ∧ (∀ t k, t ≠ 38 ∧ t ≠ 39 ∧ t ≠ 40 → v t k = u t k) ∧ FrW w x ∧ v 38 0 = .ofNat w ∧ v 38 1 = .ofNat x ∧ v 38 2 = 12 ∧ ∀ i, i < 12 → v w i = c
theorem FrI_M0 (h : FrI u v c w x) : M0 v := ⟨u, h.1, fun t k ht => h.2.1 t k (by omega)⟩
theorem fr_sh (h : FrW w x) : pm_get SH w = some (1, 0, 30) ∧ (∀ k, refAt w k = none) ∧ w < 1000 := by
  rcases h with ⟨rfl, rfl⟩ | ⟨rfl, rfl⟩
  · exact ⟨rfl, nr_of rfl, by decide⟩
  · exact ⟨rfl, nr_of rfl, by decide⟩
theorem FrW_sym (h : FrW w x) : FrW x w := by
  rcases h with ⟨rfl, rfl⟩ | ⟨rfl, rfl⟩
  · exact Or.inr ⟨rfl, rfl⟩
  · exact Or.inl ⟨rfl, rfl⟩
theorem FrI_up (h : FrI u v c w x) (k : Nat) (z : Int) : FrI u (pm_up v x k z) c w x := by
  obtain ⟨h1, h2, h3, h4, h5, h6, h7⟩ := h
  have hx : x ≠ 38 ∧ (x = 39 ∨ x = 40) ∧ w ≠ x := by rcases h3 with ⟨rfl, rfl⟩ | ⟨rfl, rfl⟩ <;> decide
  refine ⟨h1, fun t k ht => ?_, h3, ?_, ?_, ?_, fun i hi => ?_⟩
  · rw [up_ne (by omega)]; exact h2 t k ht
  · rw [up_ne (by omega)]; exact h4
  · rw [up_ne (by omega)]; exact h5
  · rw [up_ne (by omega)]; exact h6
  · rw [up_ne (by omega)]; exact h7 i hi
theorem fr_ld {C : pm_C} {pc pc2 : Nat} {ls st : List pm_V} {y : pm_A} {k : Int} (hf : pm_fetch C pc = some (.iaload, y)) (hp : pc + 1 = pc2) (h : FrI u v c w x) (h0 : 0 ≤ k) (h1 : k < 12) : qG L xs d C pc ls ((0, k) :: (2, v 38 0) :: st) (qS v) = qG L xs d C pc2 ls ((0, c) :: st) (qS v) := by
  obtain ⟨s1, s2, s3⟩ := fr_sh h.2.2.1
  rw [h.2.2.2.1, ← hp, qG_ald2 (Or.inl ⟨rfl, rfl, rfl⟩) hf s3 s1 h0 (by omega) (s2 _), h.2.2.2.2.2.2 _ (by omega)]
theorem fr_st {C : pm_C} {pc pc2 : Nat} {ls st : List pm_V} {y : pm_A} {k z : Int} (hf : pm_fetch C pc = some (.iastore, y)) (hp : pc + 1 = pc2) (h : FrW w x) (h0 : 0 ≤ k) (h1 : k < 12) : qG L xs d C pc ls ((0, z) :: (0, k) :: (2, .ofNat w) :: st) (qS v) = qG L xs d C pc2 ls st (qS (pm_up v w k.toNat z)) := by
  obtain ⟨s1, s2, s3⟩ := fr_sh h
  rw [← hp, qG_ast2 (Or.inl ⟨rfl, rfl⟩) hf s1 h0 (by omega) (s2 _)]
theorem FrI_val (h : FrI u v c w x) (a b : Int) (z : Int) (ha : 0 ≤ a) (ha2 : a < 15) (hb : 0 ≤ b) (hb2 : b < hm u a) (hb3 : b < 30) (hz : u (3 + a.toNat) b.toNat = z) : qE L xs (d + 3) nX9_value [(2, 1), (0, a), (0, b)] (qS v) = some (some (0, z), qS v) := by
  rw [c_value_in a b ha ha2 hb (by rw [hm_fr (funext fun k => h.2.1 1 k (by omega))]; exact hb2) hb3, h.2.1 _ _ (by omega), hz]
theorem fr_num (h0 : 0 ≤ c) (h1 : c ≤ 50) : pm_max 0 (w32 (w32 (Int.tdiv (w32 (w32 (w32 (2 * c) + c) + c)) 4) - w32 (1 * w32 (Int.tdiv (w32 (9 - 4)) 3)))) = if c < 1 then 0 else c - 1 := by
  rw [show w32 (1 * w32 (Int.tdiv (w32 (9 - 4)) 3)) = 1 from rfl]
  simp (disch := omega) only [w32_id, td_pos]
  unfold pm_max
  rw [show 2 * c + c + c = c * 4 by omega, Int.mul_ediv_cancel _ (by decide)]
  by_cases h : c < 1
  · rw [if_neg (by omega), if_pos h]
  · by_cases h2 : c = 1
    · subst h2; rfl
    · rw [if_pos (by omega), if_neg h]
theorem lp_pass (hc0 : 0 ≤ c) (hc1 : c ≤ 50) : ∀ (n j : Nat) (v : Nat → Nat → Int) (u4 u5 u6 : pm_V), j + n = 12 → FrI u v c w x → (∀ i, i < j → v x i = if c < 1 then 0 else c - 1) → ∃ v' w4 w5 w6, qG L xs (d + 3) CX4_pass 10 [(2, 38), (2, 1), (0, 1), (0, (j : Int)), u4, u5, u6] [] (qS v) = qG L xs (d + 3) CX4_pass 120 [(2, 38), (2, 1), (0, 1), (0, 12), w4, w5, w6] [] (qS v') ∧ FrI u v' c w x ∧ ∀ i, i < 12 → v' x i = if c < 1 then 0 else c - 1
  | 0, j, v, u4, u5, u6, hj, hI, hx => by
    refine ⟨v, u4, u5, u6, ?_, hI, fun i hi => hx i (by omega)⟩
    rw [b_X4_pass_10, hI.2.2.2.2.2.1, if_neg (by omega), show (j : Int) = 12 by omega]
  | n + 1, j, v, u4, u5, u6, hj, hI, hx => by
    have e2 := hI.2.2.2.2.2.1
    obtain ⟨v', w4, w5, w6, h3, h4, h5⟩ := lp_pass hc0 hc1 n (j + 1) (pm_up v x (j : Int).toNat (if c < 1 then 0 else c - 1)) (0, c) (0, c) (0, 1) (by omega) (FrI_up hI _ _) (fun i hi => by
      by_cases hij : i = j
      · rw [hij, show (j : Int).toNat = j by omega, up_eq]
      · rw [up_ne (by omega)]; exact hx i (by omega))
    refine ⟨v', w4, w5, w6, Eq.trans ?_ h3, h4, h5⟩
    rw [show ((j + 1 : Nat) : Int) = (j : Int) + 1 by omega]
    have a1 : qG L xs (d + 3) CX4_pass 10 [(2, 38), (2, 1), (0, 1), (0, (j : Int)), u4, u5, u6] [] (qS v) = qG L xs (d + 3) CX4_pass 39 [(2, 38), (2, 1), (0, 1), (0, (j : Int)), u4, u5, u6] [(0, c)] (qS v) := by
      rw [b_X4_pass_10, e2, if_pos (by omega), b_X4_pass_18]
      by_cases hj0 : 0 < (j : Int)
      · rw [if_pos hj0, b_X4_pass_22, w32_id (by omega) (by omega), fr_ld (pc2 := 30) rfl rfl hI (by omega) (by omega), b_X4_pass_30]
      · rw [if_neg hj0, b_X4_pass_33, fr_ld (pc2 := 39) rfl rfl hI (by omega) (by omega)]
    have a2 : qG L xs (d + 3) CX4_pass 39 [(2, 38), (2, 1), (0, 1), (0, (j : Int)), u4, u5, u6] [(0, c)] (qS v) = qG L xs (d + 3) CX4_pass 68 [(2, 38), (2, 1), (0, 1), (0, (j : Int)), (0, c), u5, u6] [(0, c)] (qS v) := by
      rw [b_X4_pass_39, e2, w32_id (by omega) (by omega)]
      by_cases hj0 : (j : Int) + 1 < 12
      · rw [if_pos hj0, b_X4_pass_51, w32_id (by omega) (by omega), fr_ld (pc2 := 59) rfl rfl hI (by omega) (by omega), b_X4_pass_59]
      · rw [if_neg hj0, b_X4_pass_62, fr_ld (pc2 := 68) rfl rfl hI (by omega) (by omega)]
    rw [a1, a2, b_X4_pass_68, FrI_val hI 0 j 4 (by omega) (by omega) (by omega) (by rw [hm_0]; omega) (by omega) (f_3_0_r hI.1 _ (by omega) (by omega)), qB_some, psh_some, b_X4_pass_79, fr_ld (pc2 := 98) rfl rfl hI (by omega) (by omega), hI.2.2.2.2.1, b_X4_pass_98, fr_num hc0 hc1, fr_st (pc2 := 114) rfl rfl (FrW_sym hI.2.2.1) (by omega) (by omega), b_X4_pass_114, w32_id (by omega) (by omega)]
    rfl
theorem c_pass (hc0 : 0 ≤ c) (hc1 : c ≤ 50) (hI : FrI u v c w x) : ∃ v', qE L xs (d + 4) nX4_pass [(2, 38), (2, 1)] (qS v) = some (none, qS v') ∧ FrI u v' (if c < 1 then 0 else c - 1) x w := by
  obtain ⟨v', w4, w5, w6, h3, h4, h5⟩ := lp_pass (L := L) (xs := xs) (d := d) hc0 hc1 12 0 v (9, 0) (9, 0) (9, 0) (by omega) hI (fun i hi => absurd hi (by omega))
  refine ⟨pm_up (pm_up v' 38 0 (v' 38 1)) 38 1 (.ofNat w), ?_, ?_⟩
  · rw [e_X4_pass, b_X4_pass_0, FrI_val hI 10 0 1 (by omega) (by omega) (by omega) (by rw [hm_10]; omega) (by omega) (f_13_0 hI.1), qB_some, psh_some, b_X4_pass_7]
    refine Eq.trans h3 ?_
    rw [b_X4_pass_120, h4.2.2.2.1]
    refine (qG_1n (ins := .astore_n 3) (x := (0, 0, 0, 0)) (pc2 := 125) (ls2 := [(2, 38), (2, 1), (0, 1), (2, .ofNat w), w4, w5, w6]) (st2 := []) (σ2 := qS v') rfl rfl).trans ?_
    rw [b_X4_pass_125, b_X4_pass_133, b_X4_pass_138]
  · obtain ⟨k1, k2, k3, k4, k5, k6, k7⟩ := h4
    refine ⟨k1, fun t k ht => ?_, FrW_sym k3, ?_, ?_, ?_, fun i hi => ?_⟩
    · rw [up_ne (by omega), up_ne (by omega)]; exact k2 t k ht
    · rw [up_ne (by omega), up_eq]; exact k5
    · rw [up_eq]
    · rw [up_ne (by omega), up_ne (by omega)]; exact k6
    · have : x ≠ 38 := by rcases k3 with ⟨rfl, rfl⟩ | ⟨rfl, rfl⟩ <;> decide
      rw [up_ne (by omega), up_ne (by omega)]; exact h5 i hi
theorem lp_begin : ∀ (n j : Nat) (v : Nat → Nat → Int), j + n = 12 → Fresh u → (∀ t k, t ≠ 38 ∧ t ≠ 39 ∧ t ≠ 40 → v t k = u t k) → v 38 0 = 39 → v 38 1 = 40 → v 38 2 = 12 → (∀ i, i < j → v 39 i = 50) → ∃ v', qG L xs (d + 3) CX4_begin 15 [(2, 38), (2, 1), (0, (j : Int))] [] (qS v) = some (none, qS v') ∧ FrI u v' 50 39 40
  | 0, j, v, hj, h1, h2, h3, h4, h5, h6 => by
    refine ⟨v, ?_, h1, h2, Or.inl ⟨rfl, rfl⟩, h3, h4, h5, fun i hi => h6 i (by omega)⟩
    rw [b_X4_begin_15, h5, if_neg (by omega), b_X4_begin_41]
  | n + 1, j, v, hj, h1, h2, h3, h4, h5, h6 => by
    obtain ⟨v', e1, e2⟩ := lp_begin n (j + 1) (pm_up v 39 (j : Int).toNat 50) (by omega) h1 (fun t k ht => by rw [up_ne (by omega)]; exact h2 t k ht) (by rw [up_ne (by omega)]; exact h3) (by rw [up_ne (by omega)]; exact h4) (by rw [up_ne (by omega)]; exact h5) (fun i hi => by
      by_cases hij : i = j
      · rw [hij, show (j : Int).toNat = j by omega, up_eq]
      · rw [up_ne (by omega)]; exact h6 i (by omega))
    refine ⟨v', Eq.trans ?_ e1, e2⟩
    have hv : qE L xs (d + 3) nX9_value [(2, 1), (0, 1), (0, (j : Int))] (qS v) = some (some (0, 50), qS v) := by
      rw [c_value_in 1 j (by omega) (by omega) (by omega) (by rw [hm_1]; omega) (by omega), h2 _ _ (by omega)]
      rw [show 3 + (1 : Int).toNat = 4 from rfl, f_4_0_r h1 _ (by omega) (by omega)]
    rw [show ((j + 1 : Nat) : Int) = (j : Int) + 1 by omega]
    rw [b_X4_begin_15, h5, if_pos (by omega), b_X4_begin_23, hv, qB_some, psh_some, h3]
    refine (fr_st (w := 39) (x := 40) (pc2 := 35) rfl rfl (Or.inl ⟨rfl, rfl⟩) (by omega) (by omega)).trans ?_
    rw [b_X4_begin_35, w32_id (by omega) (by omega)]
theorem c_begin (h : Fresh v) : ∃ v', qE L xs (d + 4) nX4_begin [(2, 38), (2, 1)] (qS v) = some (none, qS v') ∧ FrI v v' 50 39 40 := by
  obtain ⟨v', e1, e2⟩ := lp_begin (L := L) (xs := xs) (d := d) (u := v) 12 0 (pm_up v 38 2 12) (by omega) h (fun t k ht => by rw [up_ne (by omega)]) (by rw [up_ne (by omega), f_38_0 h]) (by rw [up_ne (by omega), f_38_1 h]) (by rw [up_eq]) (fun i hi => absurd hi (by omega))
  refine ⟨v', ?_, e2⟩
  rw [e_X4_begin, b_X4_begin_0, c_yardsNow, qB_some, psh_some, b_X4_begin_5, f_11_0 h, show pm_min 12 30 = 12 from rfl, b_X4_begin_13]
  exact e1
end FO
