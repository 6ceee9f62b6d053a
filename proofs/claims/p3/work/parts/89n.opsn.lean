/-! FROST in general: the class's nights -/
section ON3
variable {L : Nat} {xs : Nat → Int} {d : Nat} {v u : Nat → Nat → Int} {w x Y : Nat} {W : Nat → Int}
/-- what a yard loses in a night -/
def lsW (C : Int) (T : Nat → Int) (y : Nat) : Int := C * ((9 - T y) / 3)
theorem lsW_in {C : Int} {T : Nat → Int} {y : Nat} (hC : 0 ≤ C ∧ C ≤ 9) (hT : 1 ≤ T y ∧ T y ≤ 9) : 0 ≤ lsW C T y ∧ lsW C T y ≤ 18 := by
  unfold lsW
  have h1 : 0 ≤ (9 - T y) / 3 := by omega
  have h2 : (9 - T y) / 3 ≤ 2 := by omega
  have := Int.mul_nonneg hC.1 h1
  have := Int.mul_le_mul hC.2 h2 h1 (by omega)
  omega
def bwW (W : Nat → Int) (y : Nat) : Int := if 0 < y then W (y - 1) else W y
def abW (Y : Nat) (W : Nat → Int) (y : Nat) : Int := if y + 1 < Y then W (y + 1) else W y
def nxW (C : Int) (T : Nat → Int) (Y : Nat) (W : Nat → Int) (y : Nat) : Int := if (2 * W y + bwW W y + abW Y W y) / 4 - lsW C T y < 0 then 0 else (2 * W y + bwW W y + abW Y W y) / 4 - lsW C T y
/-- the warmth after so many nights -/
def ntW (C : Int) (T : Nat → Int) (Y : Nat) (W : Nat → Int) : Nat → Nat → Int
  | 0 => W
  | n + 1 => nxW C T Y (ntW C T Y W n)
theorem bwW_in {y : Nat} (hW : ∀ i, i < Y → 0 ≤ W i ∧ W i ≤ 99) (hy : y < Y) : 0 ≤ bwW W y ∧ bwW W y ≤ 99 := by
  unfold bwW
  by_cases h : 0 < y
  · rw [if_pos h]
    exact hW _ (by omega)
  · rw [if_neg h]
    exact hW _ hy
theorem abW_in {y : Nat} (hW : ∀ i, i < Y → 0 ≤ W i ∧ W i ≤ 99) (hy : y < Y) : 0 ≤ abW Y W y ∧ abW Y W y ≤ 99 := by
  unfold abW
  by_cases h : y + 1 < Y
  · rw [if_pos h]
    exact hW _ h
  · rw [if_neg h]
    exact hW _ hy
theorem nxW_in {C : Int} {T : Nat → Int} (hC : 0 ≤ C ∧ C ≤ 9) (hT : ∀ i, i < 30 → 1 ≤ T i ∧ T i ≤ 9) (hY : Y ≤ 30) (hW : ∀ i, i < Y → 0 ≤ W i ∧ W i ≤ 99) : ∀ i, i < Y → 0 ≤ nxW C T Y W i ∧ nxW C T Y W i ≤ 99 := fun i hi => by
  have a := hW i hi
  have b := bwW_in hW hi
  have c := abW_in hW hi
  have e := lsW_in hC (hT i (by omega))
  unfold nxW
  by_cases g : (2 * W i + bwW W i + abW Y W i) / 4 - lsW C T i < 0
  · rw [if_pos g]
    omega
  · rw [if_neg g]
    omega
theorem ntW_in {C : Int} {T : Nat → Int} (hC : 0 ≤ C ∧ C ≤ 9) (hT : ∀ i, i < 30 → 1 ≤ T i ∧ T i ≤ 9) (hY : Y ≤ 30) (hW : ∀ i, i < Y → 0 ≤ W i ∧ W i ≤ 99) : ∀ n, ∀ i, i < Y → 0 ≤ ntW C T Y W n i ∧ ntW C T Y W n i ≤ 99
  | 0 => hW
  | n + 1 => nxW_in hC hT hY (ntW_in hC hT hY hW n)
/-- the class's cells while the nights pass -/
def FrG (u v : Nat → Nat → Int) (Y : Nat) (W : Nat → Int) (w x : Nat) : Prop := (∀ t k, t ≠ 38 ∧ t ≠ 39 ∧ t ≠ 40 → v t k = u t k) ∧ FrW w x ∧ v 38 0 = .ofNat w ∧ v 38 1 = .ofNat x ∧ v 38 2 = (Y : Int) ∧ ∀ i, i < Y → v w i = W i
theorem FrG_up (h : FrG u v Y W w x) (k : Nat) (z : Int) : FrG u (pm_up v x k z) Y W w x := by
  obtain ⟨h2, h3, h4, h5, h6, h7⟩ := h
  have hx : x ≠ 38 ∧ (x = 39 ∨ x = 40) ∧ w ≠ x := by rcases h3 with ⟨rfl, rfl⟩ | ⟨rfl, rfl⟩ <;> decide
  refine ⟨fun t k ht => ?_, h3, ?_, ?_, ?_, fun i hi => ?_⟩
  · rw [up_ne (by omega)]; exact h2 t k ht
  · rw [up_ne (by omega)]; exact h4
  · rw [up_ne (by omega)]; exact h5
  · rw [up_ne (by omega)]; exact h6
  · rw [up_ne (by omega)]; exact h7 i hi
theorem frg_ld {C : pm_C} {pc pc2 : Nat} {ls st : List pm_V} {y : pm_A} {k : Int} (hf : pm_fetch C pc = some (.iaload, y)) (hp : pc + 1 = pc2) (h : FrG u v Y W w x) (hY : Y ≤ 30) (h0 : 0 ≤ k) (h1 : k < (Y : Int)) : qG L xs d C pc ls ((0, k) :: (2, v 38 0) :: st) (qS v) = qG L xs d C pc2 ls ((0, W k.toNat) :: st) (qS v) := by
  obtain ⟨s1, s2, s3⟩ := fr_sh h.2.1
  rw [h.2.2.1, ← hp, qG_ald2 (Or.inl ⟨rfl, rfl, rfl⟩) hf s3 s1 h0 (by omega) (s2 _), h.2.2.2.2.2 _ (by omega)]
theorem frg_st {C : pm_C} {pc pc2 : Nat} {ls st : List pm_V} {y : pm_A} {k z : Int} (hf : pm_fetch C pc = some (.iastore, y)) (hp : pc + 1 = pc2) (h : FrW w x) (h0 : 0 ≤ k) (h1 : k < 30) : qG L xs d C pc ls ((0, z) :: (0, k) :: (2, .ofNat w) :: st) (qS v) = qG L xs d C pc2 ls st (qS (pm_up v w k.toNat z)) := by
  obtain ⟨s1, s2, s3⟩ := fr_sh h
  rw [← hp, qG_ast2 (Or.inl ⟨rfl, rfl⟩) hf s1 h0 (by omega) (s2 _)]
theorem frg_val (h : FrG u v Y W w x) (a b : Int) (ha : 0 ≤ a) (ha2 : a < 15) (hb : 0 ≤ b) (hb2 : b < hm u a) (hb3 : b < 30) : qE L xs (d + 3) nX9_value [(2, 1), (0, a), (0, b)] (qS v) = some (some (0, u (3 + a.toNat) b.toNat), qS v) := by
  rw [c_value_in a b ha ha2 hb (by rw [hm_fr (funext fun k => h.1 1 k (by omega))]; exact hb2) hb3, h.1 _ _ (by omega)]
theorem frg_num {A B D C T : Int} (hA : 0 ≤ A ∧ A ≤ 99) (hB : 0 ≤ B ∧ B ≤ 99) (hD : 0 ≤ D ∧ D ≤ 99) (hT : 1 ≤ T ∧ T ≤ 9) (hL : 0 ≤ C * ((9 - T) / 3) ∧ C * ((9 - T) / 3) ≤ 18) : pm_max 0 (w32 (w32 (Int.tdiv (w32 (w32 (w32 (2 * A) + B) + D)) 4) - w32 (C * w32 (Int.tdiv (w32 (9 - T)) 3)))) = if (2 * A + B + D) / 4 - C * ((9 - T) / 3) < 0 then 0 else (2 * A + B + D) / 4 - C * ((9 - T) / 3) := by
  rw [w32_id (z := 2 * A) (by omega) (by omega), w32_id (z := 2 * A + B) (by omega) (by omega), w32_id (z := 2 * A + B + D) (by omega) (by omega), td_pos 4 (by omega), w32_id (z := 9 - T) (by omega) (by omega), td_pos 3 (by omega), w32_id (z := (9 - T) / 3) (by omega) (by omega), w32_id (z := (2 * A + B + D) / 4) (by omega) (by omega), w32_id (z := C * ((9 - T) / 3)) (by omega) (by omega), w32_id (by omega) (by omega)]
  unfold pm_max
  by_cases h : (2 * A + B + D) / 4 - C * ((9 - T) / 3) < 0
  · rw [if_pos h]
    split <;> omega
  · rw [if_neg h]
    split <;> omega
theorem lpr_pass (hu : rlW u) (hY : Y ≤ 30) (hW : ∀ i, i < Y → 0 ≤ W i ∧ W i ≤ 99) : ∀ (n j : Nat) (v : Nat → Nat → Int) (u4 u5 u6 : pm_V), j + n = Y → FrG u v Y W w x → (∀ i, i < j → v x i = nxW (u 13 0) (u 3) Y W i) → ∃ v' w4 w5 w6, qG L xs (d + 3) CX4_pass 10 [(2, 38), (2, 1), (0, u 13 0), (0, (j : Int)), u4, u5, u6] [] (qS v) = qG L xs (d + 3) CX4_pass 120 [(2, 38), (2, 1), (0, u 13 0), (0, (Y : Int)), w4, w5, w6] [] (qS v') ∧ FrG u v' Y W w x ∧ ∀ i, i < Y → v' x i = nxW (u 13 0) (u 3) Y W i
  | 0, j, v, u4, u5, u6, hj, hI, hx => by
    refine ⟨v, u4, u5, u6, ?_, hI, fun i hi => hx i (by omega)⟩
    rw [b_X4_pass_10, hI.2.2.2.2.1, if_neg (by omega), show (j : Int) = Y by omega]
  | n + 1, j, v, u4, u5, u6, hj, hI, hx => by
    have e2 := hI.2.2.2.2.1
    obtain ⟨v', w4, w5, w6, h3, h4, h5⟩ := lpr_pass hu hY hW n (j + 1) (pm_up v x (j : Int).toNat (nxW (u 13 0) (u 3) Y W j)) (0, bwW W j) (0, abW Y W j) (0, lsW (u 13 0) (u 3) j) (by omega) (FrG_up hI _ _) (fun i hi => by
      by_cases hij : i = j
      · rw [hij, show (j : Int).toNat = j by omega, up_eq]
      · rw [up_ne (by omega)]; exact hx i (by omega))
    refine ⟨v', w4, w5, w6, Eq.trans ?_ h3, h4, h5⟩
    rw [show ((j + 1 : Nat) : Int) = (j : Int) + 1 by omega]
    have a1 : qG L xs (d + 3) CX4_pass 10 [(2, 38), (2, 1), (0, u 13 0), (0, (j : Int)), u4, u5, u6] [] (qS v) = qG L xs (d + 3) CX4_pass 39 [(2, 38), (2, 1), (0, u 13 0), (0, (j : Int)), u4, u5, u6] [(0, bwW W j)] (qS v) := by
      unfold bwW
      rw [b_X4_pass_10, e2, if_pos (by omega), b_X4_pass_18]
      by_cases hj0 : 0 < j
      · rw [if_pos (by omega), if_pos hj0, b_X4_pass_22, w32_id (by omega) (by omega), frg_ld (pc2 := 30) rfl rfl hI hY (by omega) (by omega), b_X4_pass_30, show ((j : Int) - 1).toNat = j - 1 by omega]
      · rw [if_neg (by omega), if_neg hj0, b_X4_pass_33, frg_ld (pc2 := 39) rfl rfl hI hY (by omega) (by omega), Int.toNat_natCast]
    have a2 : qG L xs (d + 3) CX4_pass 39 [(2, 38), (2, 1), (0, u 13 0), (0, (j : Int)), u4, u5, u6] [(0, bwW W j)] (qS v) = qG L xs (d + 3) CX4_pass 68 [(2, 38), (2, 1), (0, u 13 0), (0, (j : Int)), (0, bwW W j), u5, u6] [(0, abW Y W j)] (qS v) := by
      unfold abW
      rw [b_X4_pass_39, e2, w32_id (by omega) (by omega)]
      by_cases hj0 : j + 1 < Y
      · rw [if_pos (by omega), if_pos hj0, b_X4_pass_51, w32_id (by omega) (by omega), frg_ld (pc2 := 59) rfl rfl hI hY (by omega) (by omega), b_X4_pass_59, show ((j : Int) + 1).toNat = j + 1 by omega]
      · rw [if_neg (by omega), if_neg hj0, b_X4_pass_62, frg_ld (pc2 := 68) rfl rfl hI hY (by omega) (by omega), Int.toNat_natCast]
    have hT := rW_t hu j (by omega)
    have hL := lsW_in (y := j) (T := u 3) (rW_C hu) hT
    have num := frg_num (C := u 13 0) (T := u 3 j) (hW j (by omega)) (bwW_in hW (show j < Y by omega)) (abW_in hW (show j < Y by omega)) hT hL
    have ls : w32 (u 13 0 * w32 (Int.tdiv (w32 (9 - u 3 j)) 3)) = lsW (u 13 0) (u 3) j := by
      have hL2 := hL
      unfold lsW at hL2
      rw [w32_id (z := 9 - u 3 j) (by omega) (by omega), td_pos 3 (by omega), w32_id (z := (9 - u 3 j) / 3) (by omega) (by omega), w32_id (by omega) (by omega)]
      rfl
    rw [a1, a2, b_X4_pass_68, frg_val hI 0 j (by omega) (by omega) (by omega) (by rw [hm_0]; omega) (by omega), qB_some, psh_some, Int.toNat_natCast, show u (3 + (0 : Int).toNat) j = u 3 j from rfl, b_X4_pass_79, frg_ld (pc2 := 98) rfl rfl hI hY (by omega) (by omega), Int.toNat_natCast, hI.2.2.2.1, b_X4_pass_98, num, ls, frg_st (pc2 := 114) rfl rfl (FrW_sym hI.2.1) (by omega) (by omega), b_X4_pass_114, w32_id (by omega) (by omega)]
    rfl
theorem cr_pass (hu : rlW u) (hY : Y ≤ 30) (hW : ∀ i, i < Y → 0 ≤ W i ∧ W i ≤ 99) (hI : FrG u v Y W w x) : ∃ v', qE L xs (d + 4) nX4_pass [(2, 38), (2, 1)] (qS v) = some (none, qS v') ∧ FrG u v' Y (nxW (u 13 0) (u 3) Y W) x w := by
  obtain ⟨v', w4, w5, w6, h3, h4, h5⟩ := lpr_pass (L := L) (xs := xs) (d := d) hu hY hW Y 0 v (9, 0) (9, 0) (9, 0) (by omega) hI (fun i hi => absurd hi (by omega))
  refine ⟨pm_up (pm_up v' 38 0 (v' 38 1)) 38 1 (.ofNat w), ?_, ?_⟩
  · rw [e_X4_pass, b_X4_pass_0, frg_val hI 10 0 (by omega) (by omega) (by omega) (by rw [hm_10]; omega) (by omega), qB_some, psh_some, b_X4_pass_7]
    refine Eq.trans h3 ?_
    rw [b_X4_pass_120, h4.2.2.1]
    refine (qG_1n (ins := .astore_n 3) (x := (0, 0, 0, 0)) (pc2 := 125) (ls2 := [(2, 38), (2, 1), (0, u 13 0), (2, .ofNat w), w4, w5, w6]) (st2 := []) (σ2 := qS v') rfl rfl).trans ?_
    rw [b_X4_pass_125, b_X4_pass_133, b_X4_pass_138]
  · obtain ⟨k2, k3, k4, k5, k6, k7⟩ := h4
    refine ⟨fun t k ht => ?_, FrW_sym k3, ?_, ?_, ?_, fun i hi => ?_⟩
    · rw [up_ne (by omega), up_ne (by omega)]; exact k2 t k ht
    · rw [up_ne (by omega), up_eq]; exact k5
    · rw [up_eq]
    · rw [up_ne (by omega), up_ne (by omega)]; exact k6
    · have : x ≠ 38 := by rcases k3 with ⟨rfl, rfl⟩ | ⟨rfl, rfl⟩ <;> decide
      rw [up_ne (by omega), up_ne (by omega)]; exact h5 i hi
theorem lpr_begin (hY : Y ≤ 30) : ∀ (n j : Nat) (v : Nat → Nat → Int), j + n = Y → (∀ t k, t ≠ 38 ∧ t ≠ 39 ∧ t ≠ 40 → v t k = u t k) → FrW w x → v 38 0 = .ofNat w → v 38 1 = .ofNat x → v 38 2 = (Y : Int) → (∀ i, i < j → v w i = u 4 i) → ∃ v', qG L xs (d + 3) CX4_begin 15 [(2, 38), (2, 1), (0, (j : Int))] [] (qS v) = some (none, qS v') ∧ FrG u v' Y (u 4) w x
  | 0, j, v, hj, h2, hF, h3, h4, h5, h6 => by
    refine ⟨v, ?_, h2, hF, h3, h4, h5, fun i hi => h6 i (by omega)⟩
    rw [b_X4_begin_15, h5, if_neg (by omega), b_X4_begin_41]
  | n + 1, j, v, hj, h2, hF, h3, h4, h5, h6 => by
    have hx : w ≠ 38 ∧ (w = 39 ∨ w = 40) := by rcases hF with ⟨rfl, rfl⟩ | ⟨rfl, rfl⟩ <;> decide
    obtain ⟨v', e1, e2⟩ := lpr_begin hY n (j + 1) (pm_up v w (j : Int).toNat (u 4 j)) (by omega) (fun t k ht => by rw [up_ne (by omega)]; exact h2 t k ht) hF (by rw [up_ne (by omega)]; exact h3) (by rw [up_ne (by omega)]; exact h4) (by rw [up_ne (by omega)]; exact h5) (fun i hi => by
      by_cases hij : i = j
      · rw [hij, show (j : Int).toNat = j by omega, up_eq]
      · rw [up_ne (by omega)]; exact h6 i (by omega))
    refine ⟨v', Eq.trans ?_ e1, e2⟩
    have hv : qE L xs (d + 3) nX9_value [(2, 1), (0, 1), (0, (j : Int))] (qS v) = some (some (0, u 4 j), qS v) := by
      rw [c_value_in 1 j (by omega) (by omega) (by omega) (by rw [hm_1]; omega) (by omega), h2 _ _ (by omega), Int.toNat_natCast]
      rfl
    rw [show ((j + 1 : Nat) : Int) = (j : Int) + 1 by omega]
    rw [b_X4_begin_15, h5, if_pos (by omega), b_X4_begin_23, hv, qB_some, psh_some, h3]
    refine (frg_st (pc2 := 35) rfl rfl hF (by omega) (by omega)).trans ?_
    rw [b_X4_begin_35, w32_id (by omega) (by omega)]
theorem cr_begin (hY : Y ≤ 30) (h11 : v 11 0 = (Y : Int)) (hN : (v 38 0 = 39 ∧ v 38 1 = 40) ∨ (v 38 0 = 40 ∧ v 38 1 = 39)) : ∃ v' w x, qE L xs (d + 4) nX4_begin [(2, 38), (2, 1)] (qS v) = some (none, qS v') ∧ FrG v v' Y (v 4) w x := by
  obtain ⟨w, x, hF, h3, h4⟩ : ∃ w x : Nat, FrW w x ∧ v 38 0 = .ofNat w ∧ v 38 1 = .ofNat x := by
    rcases hN with ⟨a, b⟩ | ⟨a, b⟩
    · exact ⟨39, 40, Or.inl ⟨rfl, rfl⟩, a, b⟩
    · exact ⟨40, 39, Or.inr ⟨rfl, rfl⟩, a, b⟩
  obtain ⟨v', e1, e2⟩ := lpr_begin (L := L) (xs := xs) (d := d) (u := v) (w := w) (x := x) hY Y 0 (pm_up v 38 2 Y) (by omega) (fun t k ht => by rw [up_ne (by omega)]) hF (by rw [up_ne (by omega), h3]) (by rw [up_ne (by omega), h4]) (by rw [up_eq]) (fun i hi => absurd hi (by omega))
  refine ⟨v', w, x, ?_, e2⟩
  have hm : pm_min (Y : Int) 30 = (Y : Int) := by
    unfold pm_min
    split <;> omega
  rw [e_X4_begin, b_X4_begin_0, c_yardsNow, qB_some, psh_some, b_X4_begin_5, h11, hm, b_X4_begin_13]
  exact e1
end ON3
