/-! go keeps the relation -/
section OTO
variable {L : Nat} {xs : Nat → Int} {d : Nat} {v w : Nat → Nat → Int}
theorem goM_o (u : Nat → Nat → Int) (a r : Int) {c j : Nat} (h : ¬ (c = 63 ∧ (j = 32 ∨ j = 33 ∨ j = 34))) : goM u a r c j = u c j := by
  unfold goM
  rw [up_ne (by omega), up_ne (by omega), up_ne (by omega)]
theorem goC_o (u : Nat → Nat → Int) (a r : Int) {c j : Nat} (h : ¬ (c = 47 ∧ j < 3)) : goC u a r c j = u c j := by
  unfold goC
  rw [up_ne (by omega), up_ne (by omega), up_ne (by omega)]
theorem opr_go (h : rlR v) (a : Int) : opR L xs v nX11_go nX12_go 0 [(0, a)] := by
  have hG0 := h.2.2.2.2.2.1
  obtain ⟨r, v1, v2, h1, h2, h3⟩ := op_go (L := L) (xs := xs) (d := 900) (rl_Wz h) hG0.1.1 a
  refine ⟨r, v1, v2, h1, h2, ?_⟩
  rcases h3 with ⟨q1, q2⟩ | ⟨u1, u2, q1, q2, q3, q4, q5, q6, q7, q8⟩
  · exact rlR_fP q2 (rlR_fW q1 h)
  · have hu := rlR_fW q1 h
    have hL := rW_L h.1
    obtain ⟨⟨g1, g2, g3, g4⟩, g5, g6, g7, g8⟩ := hu.2.2.2.2.2.1
    obtain ⟨y, hy⟩ : ∃ y, y = goM (goC u1 a r) a r := ⟨_, rfl⟩
    have yo : ∀ c j, ¬ (c = 63 ∧ (j = 32 ∨ j = 33 ∨ j = 34)) → ¬ (c = 47 ∧ j < 3) → y c j = u1 c j := fun c j a1 a2 => by rw [hy, goM_o _ _ _ a1, goC_o _ _ _ a2]
    have e32 : y 63 32 = a := by
      rw [hy]
      unfold goM
      rw [up_ne (by omega), up_ne (by omega), up_eq]
    have e33 : y 63 33 = w32 (u1 63 33 + r) := by
      rw [hy]
      unfold goM
      rw [up_ne (by omega), up_eq, goC_o _ _ _ (by omega)]
    have e34 : y 63 34 = w32 (u1 63 34 + 1) := by
      rw [hy]
      unfold goM
      rw [up_eq, goC_o _ _ _ (by omega)]
    have c0 : y 47 0 = a := by
      rw [hy, goM_o _ _ _ (by omega)]
      unfold goC
      rw [up_ne (by omega), up_ne (by omega), up_eq]
    have c1 : y 47 1 = w32 (u1 47 1 + r) := by
      rw [hy, goM_o _ _ _ (by omega)]
      unfold goC
      rw [up_ne (by omega), up_eq]
    have c2 : y 47 2 = w32 (u1 47 2 + 1) := by
      rw [hy, goM_o _ _ _ (by omega)]
      unfold goC
      rw [up_eq]
    have hG : rlG y := by
      refine ⟨⟨by rw [e32, c0], by rw [e33, c1, g2], by rw [e34, c2, g3], ?_⟩, by rw [c0]; omega, ?_, ?_, ?_⟩
      · rw [yo 63 35 (by omega) (by omega), yo 47 3 (by omega) (by omega)]
        exact g4
      · rw [yo 0 11 (by omega) (by omega), yo 83 3 (by omega) (by omega), yo 83 0 (by omega) (by omega), yo 83 1 (by omega) (by omega), yo 83 2 (by omega) (by omega), yo 48 0 (by omega) (by omega), yo 48 1 (by omega) (by omega), yo 48 2 (by omega) (by omega), yo 48 3 (by omega) (by omega)]
        exact g6
      · rw [yo 63 36 (by omega) (by omega), yo 0 11 (by omega) (by omega)]
        exact g7
      · rw [yo 0 11 (by omega) (by omega)]
        exact g8
    have hy2 : rlR y := rlR_or hu (Or.inr (fun c j q => yo c j (by unfold dsW at q; omega) (by unfold dsW at q; omega))) (Or.inr (fun c j q => yo c j (by unfold dsC at q; omega) (by unfold dsC at q; omega))) (Or.inr (fun c j q => yo c j (by unfold dsT at q; omega) (by unfold dsT at q; omega))) (Or.inr (fun c j q => yo c j (by unfold dsL at q; omega) (by unfold dsL at q; omega))) (Or.inr (fun c j q => yo c j (by unfold dsD at q; omega) (by unfold dsD at q; omega))) (Or.inl hG) (Or.inr (fun c j q => yo c j (by unfold dsB at q; omega) (by unfold dsB at q; omega))) (Or.inr (fun c j q => yo c j (by unfold dsS at q; omega) (by unfold dsS at q; omega))) (Or.inr (fun c j q => yo c j (by unfold dsN at q; omega) (by unfold dsN at q; omega)))
    rw [q2] at q3
    have p : fP y v2 := by
      have d3 : ∀ k, 24 < k → goM u2 a r 63 k = goM (goC u1 a r) a r 63 k := fun k hk => by
        unfold goM pm_up
        rw [q3.1.2 k (by omega), q3.1.2 33 (by omega), q3.1.2 34 (by omega)]
      rw [hy, q4]
      refine ⟨⟨fun c hc => funext (fun j => ?_), fun k hk => ?_⟩, ?_, ?_, ?_⟩
      · rw [goM_o _ _ _ (by omega), goM_o _ _ _ (by omega), q3.1.1 c hc]
      · by_cases z : 24 < k
        · exact d3 k z
        · rw [goM_o _ _ _ (by omega), goM_o _ _ _ (by omega), q3.1.2 k hk]
      · rw [goM_o _ _ _ (by omega), goM_o _ _ _ (by omega), q3.2.1]
      · rw [goM_o _ _ _ (by omega), goM_o _ _ _ (by omega), q3.2.2.1]
      · rw [goM_o _ _ _ (by omega), goM_o _ _ _ (by omega), q3.2.2.2]
    exact rlR_fP p hy2
end OTO
