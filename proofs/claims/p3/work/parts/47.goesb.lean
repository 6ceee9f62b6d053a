/-! THE REFERENCE's spreading: from its beginning -/
section DH
variable {L : Nat} {xs : Nat → Int} {d : Nat} {v : Nat → Nat → Int}
theorem lp_ginit {N s : Nat} (hN : N ≤ 60) : ∀ (n j : Nat) (v : Nat → Nat → Int), j + n = N → (∀ p, p < j → v 75 p = 1000000 ∧ v 76 p = 0) → ∃ v', qG L xs d CX12_goesFrom 9 [(2, 63), (0, (s : Int)), (0, (N : Int)), (0, (j : Int)), (9, 0), (9, 0), (9, 0)] [] (qS v) = qG L xs d CX12_goesFrom 35 [(2, 63), (0, (s : Int)), (0, (N : Int)), (0, (N : Int)), (9, 0), (9, 0), (9, 0)] [] (qS v') ∧ (∀ c, c ≠ 75 → c ≠ 76 → v' c = v c) ∧ ∀ p, p < N → v' 75 p = 1000000 ∧ v' 76 p = 0
  | 0, j, v, hj, h => by
    have hjN : j = N := by omega
    subst hjN
    refine ⟨v, ?_, fun _ _ _ => rfl, h⟩
    rw [b_X12_goesFrom_9, if_neg (by omega)]
  | n + 1, j, v, hj, h => by
    obtain ⟨v', e1, e2, e3⟩ := lp_ginit (s := s) hN n (j + 1) (pm_up (pm_up v 75 j 1000000) 76 j 0) (by omega) (fun p hp => by
      by_cases hpj : p = j
      · rw [hpj, up_ne (by omega), up_eq, up_eq]
        exact ⟨rfl, rfl⟩
      · rw [up_ne (by omega), up_ne (by omega), up_ne (by omega), up_ne (by omega)]
        exact h p (by omega))
    refine ⟨v', ?_, fun c h1 h2 => (e2 c h1 h2).trans ((up_cell h2).trans (up_cell h1)), e3⟩
    rw [show ((j + 1 : Nat) : Int) = (j : Int) + 1 by omega] at e1
    refine Eq.trans ?_ e1
    rw [b_X12_goesFrom_9, if_pos (by omega), b_X12_goesFrom_14, if_pos (by omega), Int.toNat_natCast, b_X12_goesFrom_22, if_pos (by omega), Int.toNat_natCast, b_X12_goesFrom_29, w32_id (by omega) (by omega)]
/-- from a place to each over the matrix of steps -/
theorem m_goesFrom {N s : Nat} (hY : 2 * v 64 140 = (N : Int)) (hM : MOK v N) (hs : s < N) : ∃ v', qE L xs (d + 2) nX12_goesFrom [(2, 63), (0, (s : Int))] (qS v) = some (none, qS v') ∧ (∀ c, c ≠ 75 → c ≠ 76 → v' c = v c) ∧ IsD (EM v N) N s 1000000 (v' 75) := by
  have hN := hM.1
  obtain ⟨v1, e1, e2, e3⟩ := lp_ginit (L := L) (xs := xs) (d := d + 1) (s := s) hN N 0 v (by omega) (fun p hp => absurd hp (by omega))
  have hu : ∀ c, c ≠ 75 → c ≠ 76 → pm_up v1 75 s 0 c = v c := fun c h1 h2 => (up_cell h1).trans (e2 c h1 h2)
  have h74 := hu 74 (by decide) (by decide)
  have hE : EM (pm_up v1 75 s 0) N = EM v N := by unfold EM; rw [h74]
  have h76 : pm_up v1 75 s 0 76 = v1 76 := up_cell (by decide)
  have m75 : ∀ p, p < N → pm_up v1 75 s 0 75 p = if p = s then 0 else 1000000 := fun p hp => by
    rw [up_fn]
    dsimp only
    by_cases hps : p = s
    · rw [if_pos hps, if_pos hps]
    · rw [if_neg hps, if_neg hps, (e3 p hp).1]
  obtain ⟨v', e4, e5, e6⟩ := lp_turns (L := L) (xs := xs) (d := d + 1) hs N 0 (pm_up v1 75 s 0) (9, 0) (9, 0) (9, 0) (by omega) (by unfold MOK; rw [h74]; exact hM) ⟨⟨by rw [m75 s hs, if_pos rfl], fun p hp => by
      rw [m75 p hp]
      split
      · omega
      · omega, fun p hp hm => by
      rw [m75 p hp] at hm ⊢
      by_cases hps : p = s
      · rw [if_pos hps, hps]; exact ⟨0, Wk_0 s⟩
      · rw [if_neg hps] at hm; exact absurd hm (by decide)⟩, fun p hp => by rw [h76]; exact Or.inl (e3 p hp).2, by rw [h76, cnt_all (fun p hp => (e3 p hp).2)]; rfl, fun a b ha hb hf => by rw [h76, (e3 a ha).2] at hf; exact absurd hf (by decide), fun a b ha hb hf => by rw [h76, (e3 a ha).2] at hf; exact absurd hf (by decide)⟩
  rw [hE] at e6
  refine ⟨v', ?_, fun c h1 h2 => (e5 c h1 h2).trans (hu c h1 h2), e6⟩
  rw [e_X12_goesFrom, b_X12_goesFrom_0, c_yardMany, qB_some, psh_some, b_X12_goesFrom_5, w32_id (by omega) (by omega), hY]
  refine Eq.trans e1 ?_
  rw [b_X12_goesFrom_35, if_pos (by omega), Int.toNat_natCast, b_X12_goesFrom_42]
  exact e4
end DH
