/-! WHAT KEEPS the relation: a number of the wall changed; a hole, a lane more -/
section KP
variable {L : Nat} {xs : Nat → Int} {d : Nat} {v w : Nat → Nat → Int} {k n : Nat}
theorem atM_r (hk : k < 12) (hn : n < cn k) : (k < 3 ∧ atM k n = 30 * k + n ∧ n < 30) ∨ (3 ≤ k ∧ k < 7 ∧ atM k n = 90 + 12 * (k - 3) + n ∧ n < 12) ∨ (k = 7 ∧ atM k n = 138 + n ∧ n < 2) ∨ (8 ≤ k ∧ atM k n = 140 + (k - 8) ∧ n = 0) := by
  unfold atM cn at *
  by_cases h1 : k < 3
  · rw [if_pos h1] at hn ⊢
    exact Or.inl ⟨h1, rfl, hn⟩
  · rw [if_neg h1] at hn ⊢
    by_cases h2 : k < 7
    · rw [if_pos h2] at hn ⊢
      exact Or.inr (Or.inl ⟨by omega, h2, rfl, hn⟩)
    · rw [if_neg h2] at hn ⊢
      by_cases h3 : k = 7
      · rw [if_pos h3] at hn ⊢
        exact Or.inr (Or.inr (Or.inl ⟨h3, rfl, hn⟩))
      · rw [if_neg h3] at hn ⊢
        exact Or.inr (Or.inr (Or.inr ⟨by omega, rfl, by omega⟩))
theorem cn_30 (hk : k < 12) (hn : n < cn k) : n < 30 := by
  have := atM_r hk hn
  omega
theorem atM_lt (hk : k < 12) (hn : n < cn k) : atM k n < 144 := by
  have := atM_r hk hn
  omega
theorem atM_inj {k' n' : Nat} (hk : k < 12) (hn : n < cn k) (hk' : k' < 12) (hn' : n' < cn k') (h : atM k n = atM k' n') : k = k' ∧ n = n' := by
  have a := atM_r hk hn
  have b := atM_r hk' hn'
  omega
theorem hmN_mono (h1 : v 1 1 ≤ w 1 1) (h2 : v 1 2 ≤ w 1 2) (k : Nat) : hmN v k ≤ hmN w k := by
  unfold hmN
  by_cases g1 : k < 3
  · rw [if_pos g1, if_pos g1]
    omega
  · rw [if_neg g1, if_neg g1]
    by_cases g2 : k < 5
    · rw [if_pos g2, if_pos g2]
      exact h1
    · rw [if_neg g2, if_neg g2]
      by_cases g3 : k < 7
      · rw [if_pos g3, if_pos g3]
        exact h2
      · rw [if_neg g3, if_neg g3]
        omega
theorem rlC_mono (h1 : v 1 1 ≤ w 1 1) (h2 : v 1 2 ≤ w 1 2) (hc : ∀ c k, dsC c k → c ≠ 1 → w c k = v c k) (h : rlC v) : rlC w := by
  have e : ∀ c k, dsC c k → c ≠ 1 → w c k = v c k := hc
  unfold dsC at e
  obtain ⟨p1, p2, p3⟩ := h
  refine ⟨?_, ?_, fun i hi => ?_⟩
  · rw [e 18 4 (by omega) (by omega), e 18 5 (by omega) (by omega)]
    exact p1
  · rw [e 18 4 (by omega) (by omega), e 18 5 (by omega) (by omega), e 63 4 (by omega) (by omega), e 63 5 (by omega) (by omega)]
    exact p2
  · rw [e 18 5 (by omega) (by omega)] at hi
    obtain ⟨k, n, q1, q2, q3, q4⟩ := p3 i hi
    have := hmN_mono h1 h2 k
    refine ⟨k, n, q1, q2, by omega, ?_⟩
    rw [e 19 i (by omega) (by omega), e 20 i (by omega) (by omega), e 21 i (by omega) (by omega), e 22 i (by omega) (by omega), e 65 i (by omega) (by omega), e 66 i (by omega) (by omega), e 67 i (by omega) (by omega)]
    exact q4
/-- a number of the wall becomes z, on both sides -/
theorem rW_set {z : Int} (h : rlW v) (hk : k < 12) (hn : n < cn k) (hl : (n : Int) < hmN v k) (hz : lo k ≤ z ∧ z ≤ hi k) (e1 : w (3 + k) n = z) (e2 : w 64 (atM k n) = z) (hc : ∀ c j, dsW c j → ¬ (c = 3 + k ∧ j = n) → ¬ (c = 64 ∧ j = atM k n) → w c j = v c j) : rlW w := by
  unfold dsW at hc
  have h11 : w 1 1 = v 1 1 := hc 1 1 (by omega) (by omega) (by omega)
  have h12 : w 1 2 = v 1 2 := hc 1 2 (by omega) (by omega) (by omega)
  have hh : hmN w = hmN v := by
    funext k
    unfold hmN
    rw [h11, h12]
  obtain ⟨p1, p2, p3, p4, p5, p6, p7, p8⟩ := h
  refine ⟨by rw [h11]; exact p1, by rw [h12]; exact p2, fun k' n' hk' hn' => ?_, ⟨?_, ?_⟩, fun k' n' hk' hn' hl' => ?_, fun m hm => ?_, fun m hm => ?_, fun m hm => ⟨fun hq => ?_, fun hq => ?_⟩⟩
  · by_cases g : k' = k ∧ n' = n
    · rw [g.1, g.2, e1]
      exact hz
    · rw [hc (3 + k') n' (by omega) (by omega) (by omega)]
      exact p3 k' n' hk' hn'
  · rw [h11, hc 63 6 (by omega) (by omega) (by omega)]
    exact p4.1
  · rw [h12, hc 63 8 (by omega) (by omega) (by omega)]
    exact p4.2
  · rw [hh] at hl'
    by_cases g : k' = k ∧ n' = n
    · rw [g.1, g.2, e1, e2]
    · have ne : atM k' n' ≠ atM k n := fun q => g (atM_inj hk' hn' hk hn q)
      rw [hc (3 + k') n' (by omega) (by omega) (by omega), hc 64 (atM k' n') (by omega) (by omega) (by omega)]
      exact p5 k' n' hk' hn' hl'
  · rw [h11] at hm
    rw [hc 68 m (by omega) (by omega) (by omega), hc 15 m (by omega) (by omega) (by omega)]
    exact p6 m hm
  · rw [h12] at hm
    rw [hc 69 m (by omega) (by omega) (by omega), hc 70 m (by omega) (by omega) (by omega), hc 16 m (by omega) (by omega) (by omega), hc 17 m (by omega) (by omega) (by omega)]
    exact p7 m hm
  · rw [h11] at hq
    have : (k = 3 ∨ k = 4) → n ≠ m := fun hk34 hnm => by
      have : hmN v k = v 1 1 := by
        rcases hk34 with rfl | rfl <;> rfl
      omega
    rw [hc 6 m (by omega) (by omega) (by omega), hc 7 m (by omega) (by omega) (by omega)]
    exact (p8 m hm).1 hq
  · rw [h12] at hq
    have : (k = 5 ∨ k = 6) → n ≠ m := fun hk56 hnm => by
      have : hmN v k = v 1 2 := by
        rcases hk56 with rfl | rfl <;> rfl
      omega
    rw [hc 8 m (by omega) (by omega) (by omega), hc 9 m (by omega) (by omega) (by omega)]
    exact (p8 m hm).2 hq
/-- a hole more -/
theorem rW_hole {H : Nat} {a : Int} (h : rlW v) (hH : v 1 1 = (H : Int)) (hH2 : H < 12) (ha : 0 ≤ a ∧ a < 30) (e1 : w 1 1 = (H : Int) + 1) (e2 : w 15 H = a) (e3 : w 68 H = a) (e4 : w 64 (90 + H) = 1) (e5 : w 64 (102 + H) = 1) (e6 : w 63 6 = (H : Int) + 1) (hc : ∀ c j, dsW c j → ¬ (c = 1 ∧ j = 1) → ¬ (c = 15 ∧ j = H) → ¬ (c = 68 ∧ j = H) → ¬ (c = 64 ∧ (j = 90 + H ∨ j = 102 + H)) → ¬ (c = 63 ∧ j = 6) → w c j = v c j) : rlW w := by
  unfold dsW at hc
  have h12 : w 1 2 = v 1 2 := hc 1 2 (by omega) (by omega) (by omega) (by omega) (by omega) (by omega)
  obtain ⟨p1, p2, p3, p4, p5, p6, p7, p8⟩ := h
  refine ⟨by rw [e1]; omega, by rw [h12]; exact p2, fun k' n' hk' hn' => ?_, ⟨by rw [e1, e6], ?_⟩, fun k' n' hk' hn' hl' => ?_, fun m hm => ?_, fun m hm => ?_, fun m hm => ⟨fun hq => ?_, fun hq => ?_⟩⟩
  · rw [hc (3 + k') n' (by omega) (by omega) (by omega) (by omega) (by omega) (by omega)]
    exact p3 k' n' hk' hn'
  · rw [h12, hc 63 8 (by omega) (by omega) (by omega) (by omega) (by omega) (by omega)]
    exact p4.2
  · have r := atM_r hk' hn'
    have hv : w (3 + k') n' = v (3 + k') n' := hc (3 + k') n' (by omega) (by omega) (by omega) (by omega) (by omega) (by omega)
    by_cases g3 : k' = 3 ∧ n' = H
    · obtain ⟨rfl, rfl⟩ := g3
      rw [hv]
      have a1 : w 64 (atM 3 n') = 1 := e4
      rw [a1]
      exact ((p8 n' hH2).1 (by omega)).1.symm
    · by_cases g4 : k' = 4 ∧ n' = H
      · obtain ⟨rfl, rfl⟩ := g4
        rw [hv]
        have a1 : w 64 (atM 4 n') = 1 := e5
        rw [a1]
        exact ((p8 n' hH2).1 (by omega)).2.symm
      · rw [hv, hc 64 (atM k' n') (by omega) (by omega) (by omega) (by omega) (by omega) (by omega)]
        refine p5 k' n' hk' hn' ?_
        unfold hmN at hl' ⊢
        rw [e1, h12] at hl'
        by_cases q1 : k' < 3
        · rw [if_pos q1] at hl' ⊢
          exact hl'
        · rw [if_neg q1] at hl' ⊢
          by_cases q2 : k' < 5
          · rw [if_pos q2] at hl' ⊢
            omega
          · rw [if_neg q2] at hl' ⊢
            exact hl'
  · rw [e1] at hm
    by_cases g : m = H
    · rw [g, e2, e3]
      exact ⟨rfl, ha⟩
    · rw [hc 68 m (by omega) (by omega) (by omega) (by omega) (by omega) (by omega), hc 15 m (by omega) (by omega) (by omega) (by omega) (by omega) (by omega)]
      exact p6 m (by omega)
  · rw [h12] at hm
    rw [hc 69 m (by omega) (by omega) (by omega) (by omega) (by omega) (by omega), hc 70 m (by omega) (by omega) (by omega) (by omega) (by omega) (by omega), hc 16 m (by omega) (by omega) (by omega) (by omega) (by omega) (by omega), hc 17 m (by omega) (by omega) (by omega) (by omega) (by omega) (by omega)]
    exact p7 m hm
  · rw [e1] at hq
    rw [hc 6 m (by omega) (by omega) (by omega) (by omega) (by omega) (by omega), hc 7 m (by omega) (by omega) (by omega) (by omega) (by omega) (by omega)]
    exact (p8 m hm).1 (by omega)
  · rw [h12] at hq
    rw [hc 8 m (by omega) (by omega) (by omega) (by omega) (by omega) (by omega), hc 9 m (by omega) (by omega) (by omega) (by omega) (by omega) (by omega)]
    exact (p8 m hm).2 hq
/-- a lane more -/
theorem rW_lane {H : Nat} {a b : Int} (h : rlW v) (hH : v 1 2 = (H : Int)) (hH2 : H < 12) (ha : 0 ≤ a ∧ a < 60) (hb : 0 ≤ b ∧ b < 60) (e1 : w 1 2 = (H : Int) + 1) (e2 : w 16 H = a) (e2' : w 17 H = b) (e3 : w 69 H = a) (e3' : w 70 H = b) (e4 : w 64 (114 + H) = 1) (e5 : w 64 (126 + H) = 1) (e6 : w 63 8 = (H : Int) + 1) (hc : ∀ c j, dsW c j → ¬ (c = 1 ∧ j = 2) → ¬ ((c = 16 ∨ c = 17) ∧ j = H) → ¬ ((c = 69 ∨ c = 70) ∧ j = H) → ¬ (c = 64 ∧ (j = 114 + H ∨ j = 126 + H)) → ¬ (c = 63 ∧ j = 8) → w c j = v c j) : rlW w := by
  unfold dsW at hc
  have h11 : w 1 1 = v 1 1 := hc 1 1 (by omega) (by omega) (by omega) (by omega) (by omega) (by omega)
  obtain ⟨p1, p2, p3, p4, p5, p6, p7, p8⟩ := h
  refine ⟨by rw [h11]; exact p1, by rw [e1]; omega, fun k' n' hk' hn' => ?_, ⟨?_, by rw [e1, e6]⟩, fun k' n' hk' hn' hl' => ?_, fun m hm => ?_, fun m hm => ?_, fun m hm => ⟨fun hq => ?_, fun hq => ?_⟩⟩
  · rw [hc (3 + k') n' (by omega) (by omega) (by omega) (by omega) (by omega) (by omega)]
    exact p3 k' n' hk' hn'
  · rw [h11, hc 63 6 (by omega) (by omega) (by omega) (by omega) (by omega) (by omega)]
    exact p4.1
  · have r := atM_r hk' hn'
    have hv : w (3 + k') n' = v (3 + k') n' := hc (3 + k') n' (by omega) (by omega) (by omega) (by omega) (by omega) (by omega)
    by_cases g3 : k' = 5 ∧ n' = H
    · obtain ⟨rfl, rfl⟩ := g3
      rw [hv]
      have a1 : w 64 (atM 5 n') = 1 := e4
      rw [a1]
      exact ((p8 n' hH2).2 (by omega)).1.symm
    · by_cases g4 : k' = 6 ∧ n' = H
      · obtain ⟨rfl, rfl⟩ := g4
        rw [hv]
        have a1 : w 64 (atM 6 n') = 1 := e5
        rw [a1]
        exact ((p8 n' hH2).2 (by omega)).2.symm
      · rw [hv, hc 64 (atM k' n') (by omega) (by omega) (by omega) (by omega) (by omega) (by omega)]
        refine p5 k' n' hk' hn' ?_
        unfold hmN at hl' ⊢
        rw [e1, h11] at hl'
        by_cases q1 : k' < 3
        · rw [if_pos q1] at hl' ⊢
          exact hl'
        · rw [if_neg q1] at hl' ⊢
          by_cases q2 : k' < 5
          · rw [if_pos q2] at hl' ⊢
            exact hl'
          · rw [if_neg q2] at hl' ⊢
            by_cases q3 : k' < 7
            · rw [if_pos q3] at hl' ⊢
              omega
            · rw [if_neg q3] at hl' ⊢
              exact hl'
  · rw [h11] at hm
    rw [hc 68 m (by omega) (by omega) (by omega) (by omega) (by omega) (by omega), hc 15 m (by omega) (by omega) (by omega) (by omega) (by omega) (by omega)]
    exact p6 m hm
  · rw [e1] at hm
    by_cases g : m = H
    · rw [g, e2, e2', e3, e3']
      exact ⟨rfl, rfl, ha, hb⟩
    · rw [hc 69 m (by omega) (by omega) (by omega) (by omega) (by omega) (by omega), hc 70 m (by omega) (by omega) (by omega) (by omega) (by omega) (by omega), hc 16 m (by omega) (by omega) (by omega) (by omega) (by omega) (by omega), hc 17 m (by omega) (by omega) (by omega) (by omega) (by omega) (by omega)]
      exact p7 m (by omega)
  · rw [h11] at hq
    rw [hc 6 m (by omega) (by omega) (by omega) (by omega) (by omega) (by omega), hc 7 m (by omega) (by omega) (by omega) (by omega) (by omega) (by omega)]
    exact (p8 m hm).1 hq
  · rw [e1] at hq
    rw [hc 8 m (by omega) (by omega) (by omega) (by omega) (by omega) (by omega), hc 9 m (by omega) (by omega) (by omega) (by omega) (by omega) (by omega)]
    exact (p8 m hm).2 (by omega)
/-- what is none of the wall's -/
def dsO (c k : Nat) : Prop := dsT c k ∨ dsL c k ∨ dsD c k ∨ dsG c k ∨ dsB c k ∨ dsS c k ∨ dsN c k
theorem dsO_W {c k : Nat} (h : dsO c k) : ¬ dsW c k := by
  unfold dsO dsT dsL dsD dsG dsB dsS dsN at h
  unfold dsW
  omega
theorem dsC_W {c k : Nat} (h : dsC c k) (h1 : c ≠ 1) : ¬ dsW c k := by
  unfold dsC at h
  unfold dsW
  omega
/-- all else kept -/
theorem rlR_but (h : rlR v) (hw : rlW w) (hC : rlC w) (hc : ∀ c k, dsO c k → w c k = v c k) : rlR w := by
  unfold dsO at hc
  obtain ⟨-, -, h3, h4, h5, h6, h7, h8, h9⟩ := h
  exact ⟨hw, hC, rlT_cg (fun c k q => hc c k (Or.inl q)) h3, rlL_cg (fun c k q => hc c k (Or.inr (Or.inl q))) h3 h4, rlD_cg (fun c k q => hc c k (Or.inr (Or.inr (Or.inl q)))) h5, rlG_cg (fun c k q => hc c k (Or.inr (Or.inr (Or.inr (Or.inl q))))) h6, rlB_cg (fun c k q => hc c k (Or.inr (Or.inr (Or.inr (Or.inr (Or.inl q)))))) h7, rlS_cg (fun c k q => hc c k (Or.inr (Or.inr (Or.inr (Or.inr (Or.inr (Or.inl q))))))) h8, rlN_cg (fun c k q => hc c k (Or.inr (Or.inr (Or.inr (Or.inr (Or.inr (Or.inr q))))))) h9⟩
end KP
