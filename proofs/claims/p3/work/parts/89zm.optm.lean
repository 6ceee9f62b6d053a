/-! law keeps the relation -/
section OTM
variable {L : Nat} {xs : Nat → Int} {d : Nat} {v w : Nat → Nat → Int} {b : Nat → Int} {e : Nat}
/-- the reference keeps the text -/
theorem m_keepText (x1 : Int) {n : Nat} (hn : n ≤ 120) : ∀ (m j : Nat) (u : Nat → Nat → Int), j + m = n → ∃ w, qG L xs d CX12_law 37 [(2, 63), (0, x1), (0, (n : Int)), (0, (j : Int))] [] (qS u) = some (some (0, 1), qS w) ∧ w 63 14 = (n : Int) ∧ (∀ c i, c ≠ 72 → ¬ (c = 63 ∧ i = 14) → w c i = u c i) ∧ ∀ i, w 72 i = if j ≤ i ∧ i < n then u 71 i else u 72 i
  | 0, j, u, hj => by
    refine ⟨pm_up u 63 14 (n : Int), ?_, up_eq _ _ _ _, fun c i h1 h2 => up_ne (by omega), fun i => ?_⟩
    · rw [b_X12_law_37, if_neg (by omega), b_X12_law_60, b_X12_law_65]
    · rw [up_ne (by omega), if_neg (by omega)]
  | m + 1, j, u, hj => by
    obtain ⟨w, e1, e2, e3, e4⟩ := m_keepText x1 hn m (j + 1) (pm_up u 72 j (u 71 j)) (by omega)
    refine ⟨w, ?_, e2, fun c i h1 h2 => (e3 c i h1 h2).trans (up_ne (by omega)), fun i => ?_⟩
    · rw [b_X12_law_37, if_pos (by omega), b_X12_law_42, if_pos (by omega), Int.toNat_natCast, b_X12_law_53, if_pos (by omega), Int.toNat_natCast, b_X12_law_54, w32_id (by omega) (by omega), show (j : Int) + 1 = ((j + 1 : Nat) : Int) by omega, e1]
    · rw [e4 i]
      by_cases g : j + 1 ≤ i ∧ i < n
      · rw [if_pos g, if_pos (by omega), up_ne (by omega)]
      · rw [if_neg g]
        by_cases g2 : i = j
        · rw [g2, up_eq, if_pos (by omega)]
        · rw [up_ne (by omega), if_neg (by omega)]
theorem kdF_eq : (if (txS b e 130 0 (-1)).2.2 < 0 ∧ (txS b e 130 0 (-1)).2.1 < e then ((txS b e 130 0 (-1)).2.1 : Int) else (txS b e 130 0 (-1)).2.2) = kdF b e := by
  unfold kdF
  by_cases q1 : (txS b e 130 0 (-1)).2.1 < e
  · rw [if_pos q1]
    by_cases q2 : (txS b e 130 0 (-1)).2.2 < 0
    · rw [if_pos q2, if_pos ⟨q2, q1⟩]
    · rw [if_neg q2, if_neg (fun t => q2 t.1)]
  · rw [if_neg q1, if_neg (fun t => q1 t.2)]
theorem kdF_ok (h : kdF b e < 0) : (txS b e 130 0 (-1)).2.2 < 0 ∧ (txS b e 130 0 (-1)).2.1 = e := by
  have a := txS_le (b := b) (e := e) 130 0 (-1) (Nat.zero_le _)
  unfold kdF at h
  by_cases q1 : (txS b e 130 0 (-1)).2.1 < e
  · rw [if_pos q1] at h
    by_cases q2 : (txS b e 130 0 (-1)).2.2 < 0
    · rw [if_pos q2] at h
      omega
    · rw [if_neg q2] at h
      omega
  · rw [if_neg q1] at h
    omega
theorem kdF_b : -1 ≤ kdF b e ∧ kdF b e ≤ e := by
  have a := txS_le (b := b) (e := e) 130 0 (-1) (Nat.zero_le _)
  unfold kdF
  split
  · split <;> omega
  · omega
theorem opr_law (h : rlR v) : opR L xs v nX11_law nX12_law 0 [] := by
  obtain ⟨e1, e2, e3, e4⟩ := h.2.2.1
  obtain ⟨N, hN⟩ : ∃ N : Nat, v 23 10 = (N : Int) := ⟨(v 23 10).toNat, by omega⟩
  obtain ⟨D, D', hD, hD1, hD2⟩ : ∃ D D' : Nat, ((D = 25 ∧ D' = 26) ∨ (D = 26 ∧ D' = 25)) ∧ v 23 1 = .ofNat D' ∧ v 23 2 = .ofNat D := by
    rcases e4 with ⟨q1, q2⟩ | ⟨q1, q2⟩
    · exact ⟨26, 25, Or.inr ⟨rfl, rfl⟩, q1, q2⟩
    · exact ⟨25, 26, Or.inl ⟨rfl, rfl⟩, q1, q2⟩
  obtain ⟨b, hb⟩ : ∃ b : Nat → Int, b = fun i => if i < N then v 71 i else v 72 i := ⟨_, rfl⟩
  have hbi : ∀ i, i < N → b i = v 71 i := fun i hi => by rw [hb]; exact if_pos hi
  have hB : kB v b N D := ⟨hN, by omega, fun i hi => by
    have q := e3 i (by omega)
    rw [hbi i hi]
    omega, by omega, hD2⟩
  obtain ⟨K, hK⟩ : ∃ K, K = (txS b N 130 0 (-1)).2.1 := ⟨_, rfl⟩
  obtain ⟨l, hl⟩ : ∃ l, l = (txS b N 130 0 (-1)).1 := ⟨_, rfl⟩
  obtain ⟨F, hF⟩ : ∃ F, F = kdF b N := ⟨_, rfl⟩
  have Fb := kdF_b (b := b) (e := N)
  have c1 := kd_tape (L := L) (xs := xs) (d := 939) hB hD1
  obtain ⟨w1, hw1⟩ : ∃ w1, w1 = (if kdF b N < 0 then pm_up (pm_up (pm_up (kdU v b N D) 23 1 (.ofNat D)) 23 2 (.ofNat D')) 23 5 ((txS b N 130 0 (-1)).1.length : Int) else kdU v b N D) := ⟨_, rfl⟩
  rw [← hw1] at c1
  have u1 : ∀ c j, c ≠ 23 → c ≠ D → w1 c j = v c j := fun c j q1 q2 => by
    have : kdU v b N D c j = v c j := (up_ne (by omega)).trans (kd_ne q1 q2)
    rw [hw1]
    split
    · rw [up_ne (by omega), up_ne (by omega), up_ne (by omega), this]
    · exact this
  -- the reference
  have rb : rdB (rdT w1 (-1) N) b N := by
    refine ⟨up_eq _ _ _ _, hB.2.1, fun i hi => (hB.2.2.1 i hi).2, Or.inl ⟨?_, fun i hi => ?_⟩⟩
    · unfold rdT
      rw [up_ne (by omega), up_eq]
    · unfold rdT
      rw [up_ne (by omega), up_ne (by omega), u1 71 i (by omega) (by omega), hbi i hi]
  obtain ⟨o', c2⟩ := mr_workOut (L := L) (xs := xs) (v := w1) (nm := w1 73) rb (fun _ _ => rfl) 953
  rw [kdF_eq] at c2
  obtain ⟨w2, hw2⟩ : ∃ w2, w2 = pm_up (rdS (rdT w1 (-1) N) ((txS b N 130 0 (-1)).2.1 : Int) (kdF b N) o') 63 12 0 := ⟨_, rfl⟩
  have u2 : ∀ c j, c ≠ 63 → w2 c j = w1 c j := fun c j q => by
    rw [hw2, up_ne (by omega), rd_ne (by omega)]
    unfold rdT
    rw [up_ne (by omega), up_ne (by omega)]
  have u3 : ∀ j, ¬ (j = 12 ∨ (15 ≤ j ∧ j ≤ 19)) → w2 63 j = w1 63 j := fun j q => by
    rw [hw2, up_ne (by omega), rd_ne (by omega)]
    unfold rdT
    rw [up_ne (by omega), up_ne (by omega)]
  have w212 : w2 63 12 = 0 := by rw [hw2, up_eq]
  have w218 : w2 63 18 = F := by rw [hw2, up_ne (by omega), rd_18, hF]
  have n12 : w1 63 12 = (N : Int) := by rw [u1 63 12 (by omega) (by omega)]; omega
  have n12b : ∀ k f o, rdS (rdT w1 (-1) N) k f o 63 12 = (N : Int) := fun k f o => by
    rw [rd_ne (by omega)]
    unfold rdT
    rw [up_ne (by omega), up_ne (by omega), n12]
  have r1 : qE L xs 1000 nX11_law [(2, 0)] (qS v) = some (some (0, if F < 0 then 1 else -100 - F), qS w1) := by
    rw [e_X11_law, b_X11_law_0, show qE L xs 999 nX5_readTape [(2, 23)] (qS v) = _ from c1, qB_some, psh_some, b_X11_law_7, ← hF]
    by_cases g : F < 0
    · rw [if_pos g, if_pos g, b_X11_law_12, b_X11_law_20]
    · rw [if_neg g, if_neg g, b_X11_law_16, w32_id (by omega) (by omega), b_X11_law_20]
  have r2 : qE L xs 1000 nX12_law [(2, 63)] (qS w1) = if F < 0 then qG L xs 999 CX12_law 35 [(2, 63), (0, if (txS b N 130 0 (-1)).2.2 < 0 ∧ (txS b N 130 0 (-1)).2.1 < N then 0 else vS b N (w1 73) 130 0 (-1) 0 0), (0, (N : Int)), (9, 0)] [] (qS w2) else some (some (0, -100 - F), qS w2) := by
    rw [e_X12_law, b_X12_law_0, n12, show qE L xs 999 nX12_workOut [(2, 63), (0, -1), (0, (N : Int))] (qS w1) = _ from c2, qB_some, psh_some, b_X12_law_9, n12b, ← hw2, b_X12_law_20, w218]
    by_cases g : F < 0
    · rw [if_pos g, if_pos g]
    · rw [if_neg g, if_neg g, b_X12_law_27, w218, w32_id (by omega) (by omega)]
  have k10 : w1 23 10 = 0 := by
    have : kdU v b N D 23 10 = 0 := up_eq _ _ _ _
    rw [hw1]
    split
    · rw [up_ne (by omega), up_ne (by omega), up_ne (by omega), this]
    · exact this
  by_cases g : F < 0
  · obtain ⟨w3, s1, s2, s3, s4⟩ := m_keepText (L := L) (xs := xs) (d := 999) (if (txS b N 130 0 (-1)).2.2 < 0 ∧ (txS b N 130 0 (-1)).2.1 < N then 0 else vS b N (w1 73) 130 0 (-1) 0 0) hB.2.1 N 0 w2 (by omega)
    rw [if_pos g] at r1 r2
    refine ⟨1, w1, w3, r1, ?_, ?_⟩
    · rw [r2, b_X12_law_35]
      exact s1
    · have g2 : kdF b N < 0 := by omega
      rw [if_pos g2] at hw1
      have ok := kdF_ok g2
      have z72 : w3 72 = b := by
        funext i
        rw [s4 i, hb]
        dsimp only
        by_cases gi : i < N
        · rw [if_pos ⟨Nat.zero_le _, gi⟩, if_pos gi, u2 71 i (by omega), u1 71 i (by omega) (by omega)]
        · rw [if_neg (fun t => gi t.2), if_neg gi, u2 72 i (by omega), u1 72 i (by omega) (by omega)]
      have z : ∀ c j, c ≠ 72 → c ≠ 63 → w3 c j = w1 c j := fun c j q1 q2 => (s3 c j q1 (by omega)).trans (u2 c j q2)
      have z1 : w3 23 1 = .ofNat D := by rw [z 23 1 (by omega) (by omega), hw1, up_ne (by omega), up_ne (by omega), up_eq]
      have z2 : w3 23 2 = .ofNat D' := by rw [z 23 2 (by omega) (by omega), hw1, up_ne (by omega), up_eq]
      have z5 : w3 23 5 = (l.length : Int) := by rw [z 23 5 (by omega) (by omega), hw1, up_eq, hl]
      have z10 : w3 23 10 = 0 := by rw [z 23 10 (by omega) (by omega), k10]
      have z12 : w3 63 12 = 0 := by rw [s3 63 12 (by omega) (by omega), w212]
      have hT : rlT w3 := by
        refine ⟨by rw [z12, z10], by rw [z10]; omega, fun i hi => by rw [z10] at hi; omega, ?_⟩
        rw [z1, z2]
        rcases hD with ⟨rfl, rfl⟩ | ⟨rfl, rfl⟩
        · exact Or.inl ⟨rfl, rfl⟩
        · exact Or.inr ⟨rfl, rfl⟩
      have hLw : rlL w3 := by
        refine Or.inr ⟨N, hB.2.1, s2, fun i hi => ?_, ?_, ?_, ?_, fun i q hq => ?_⟩
        · rw [z72]
          exact (hB.2.2.1 i hi).2
        · rw [z72]
          exact ok.1
        · rw [z72]
          exact ok.2
        · rw [z72, z5, hl]
        · rw [z72] at hq
          rw [z1, show (Int.ofNat D).toNat = D from rfl, z D i (by omega) (by omega), hw1, up_ne (by omega), up_ne (by omega), up_ne (by omega)]
          show pm_up _ 23 10 0 D i = q
          rw [up_ne (by omega)]
          unfold kdS
          rw [if_neg (by omega), if_pos rfl, hq]
          rfl
      have zz : ∀ c j, ¬ (c = 72 ∨ c = 23 ∨ c = 25 ∨ c = 26 ∨ (c = 63 ∧ (j = 12 ∨ j = 14 ∨ (15 ≤ j ∧ j ≤ 19)))) → w3 c j = v c j := fun c j q => by
        by_cases g63 : c = 63
        · subst g63
          rw [s3 63 j (by omega) (by omega), u3 j (by omega), u1 63 j (by omega) (by omega)]
        · rw [z c j (by omega) g63, u1 c j (by omega) (by omega)]
      exact rlR_or h (Or.inr (fun c j q => zz c j (by unfold dsW at q; omega))) (Or.inr (fun c j q => zz c j (by unfold dsC at q; omega))) (Or.inl hT) (Or.inl hLw) (Or.inr (fun c j q => zz c j (by unfold dsD at q; omega))) (Or.inr (fun c j q => zz c j (by unfold dsG at q; omega))) (Or.inr (fun c j q => zz c j (by unfold dsB at q; omega))) (Or.inr (fun c j q => zz c j (by unfold dsS at q; omega))) (Or.inr (fun c j q => zz c j (by unfold dsN at q; omega)))
  · rw [if_neg g] at r1 r2
    refine ⟨-100 - F, w1, w2, r1, r2, ?_⟩
    have g2 : ¬ kdF b N < 0 := by omega
    rw [if_neg g2] at hw1
    have y23 : ∀ j, ¬ (j = 8 ∨ j = 9 ∨ j = 6 ∨ j = 10) → w1 23 j = v 23 j := fun j q => by
      rw [hw1]
      exact (up_ne (by omega)).trans (kd_23 (by omega))
    have z10 : w2 23 10 = 0 := by rw [u2 23 10 (by omega), k10]
    have z1 : w2 23 1 = v 23 1 := by rw [u2 23 1 (by omega), y23 1 (by omega)]
    have z2 : w2 23 2 = v 23 2 := by rw [u2 23 2 (by omega), y23 2 (by omega)]
    have z5 : w2 23 5 = v 23 5 := by rw [u2 23 5 (by omega), y23 5 (by omega)]
    have hT : rlT w2 := by
      refine ⟨by rw [w212, z10], by rw [z10]; omega, fun i hi => by rw [z10] at hi; omega, ?_⟩
      rw [z1, z2]
      exact e4
    have z72 : w2 72 = v 72 := funext (fun i => by rw [u2 72 i (by omega), u1 72 i (by omega) (by omega)])
    have z14 : w2 63 14 = v 63 14 := by rw [u3 14 (by omega), u1 63 14 (by omega) (by omega)]
    have zD : w2 (w2 23 1).toNat = v (v 23 1).toNat := funext (fun i => by
      rw [z1, hD1, show (Int.ofNat D').toNat = D' from rfl, u2 D' i (by omega), u1 D' i (by omega) (by omega)])
    have hLw : rlL w2 := by
      unfold rlL
      rw [zD, z5, z14, z72]
      exact h.2.2.2.1
    have zz : ∀ c j, ¬ (c = 23 ∨ c = 25 ∨ c = 26 ∨ (c = 63 ∧ (j = 12 ∨ (15 ≤ j ∧ j ≤ 19)))) → w2 c j = v c j := fun c j q => by
      by_cases g63 : c = 63
      · subst g63
        rw [u3 j (by omega), u1 63 j (by omega) (by omega)]
      · rw [u2 c j g63, u1 c j (by omega) (by omega)]
    exact rlR_or h (Or.inr (fun c j q => zz c j (by unfold dsW at q; omega))) (Or.inr (fun c j q => zz c j (by unfold dsC at q; omega))) (Or.inl hT) (Or.inl hLw) (Or.inr (fun c j q => zz c j (by unfold dsD at q; omega))) (Or.inr (fun c j q => zz c j (by unfold dsG at q; omega))) (Or.inr (fun c j q => zz c j (by unfold dsB at q; omega))) (Or.inr (fun c j q => zz c j (by unfold dsS at q; omega))) (Or.inr (fun c j q => zz c j (by unfold dsN at q; omega)))
end OTM
