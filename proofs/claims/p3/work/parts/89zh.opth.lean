/-! THE LAW: the class works its code out -/
section OTH
variable {L : Nat} {xs : Nat → Int} {d : Nat} {v w : Nat → Nat → Int}
/-- numbers as in v, but the stack, which holds st -/
def stO (v w : Nat → Nat → Int) (st : List Int) : Prop := (∀ c, c ≠ 23 → c ≠ 28 → w c = v c) ∧ (∀ k, k ≠ 7 → w 23 k = v 23 k) ∧ w 23 7 = (st.length : Int) ∧ ∀ j, j < st.length → w 28 j = st.getD (st.length - 1 - j) 0
theorem k_push {st : List Int} (h : stO v w st) (hl : st.length < 120) (z : Int) : ∃ w', qE L xs (d + 1) nX5_push [(2, 23), (0, z)] (qS w) = some (none, qS w') ∧ stO v w' (z :: st) := by
  obtain ⟨h1, h2, h3, h4⟩ := h
  refine ⟨pm_up (pm_up w 28 st.length z) 23 7 ((st.length : Int) + 1), ?_, fun c c1 c2 => ?_, fun k hk => ?_, ?_, fun j hj => ?_⟩
  · rw [e_X5_push, b_X5_push_0, h3, if_pos (by omega), b_X5_push_12, h3, if_pos (by omega), Int.toNat_natCast, b_X5_push_22, up_ne (by omega), h3, w32_id (by omega) (by omega), b_X5_push_32]
  · rw [← h1 c c1 c2]
    funext k
    rw [up_ne (by omega), up_ne (by omega)]
  · rw [up_ne (by omega), up_ne (by omega)]
    exact h2 k hk
  · rw [up_eq]
    rfl
  · rw [up_ne (by omega)]
    have hl2 : (z :: st).length = st.length + 1 := rfl
    rw [hl2] at hj ⊢
    by_cases q : j = st.length
    · rw [q, up_eq, show st.length + 1 - 1 - st.length = 0 by omega]
      rfl
    · rw [up_ne (by omega), h4 j (by omega), show st.length + 1 - 1 - j = (st.length - 1 - j) + 1 by omega]
      rfl
theorem k_pop {st : List Int} (h : stO v w st) (hl : st.length ≤ 120) : ∃ w', qE L xs (d + 1) nX5_pop [(2, 23)] (qS w) = some (some (0, st.headD 0), qS w') ∧ stO v w' st.tail := by
  obtain ⟨h1, h2, h3, h4⟩ := h
  cases st with
  | nil =>
    refine ⟨w, ?_, h1, h2, h3, h4⟩
    have h3' : w 23 7 = 0 := h3
    rw [e_X5_pop, b_X5_pop_0, if_neg (by omega), b_X5_pop_7]
    rfl
  | cons s t =>
    have hl2 : (s :: t).length = t.length + 1 := rfl
    rw [hl2] at h3 hl h4
    refine ⟨pm_up w 23 7 (t.length : Int), ?_, fun c c1 c2 => ?_, fun k hk => ?_, ?_, fun j hj => ?_⟩
    · rw [e_X5_pop, b_X5_pop_0, if_pos (by omega), b_X5_pop_9, h3, show ((t.length + 1 : Nat) : Int) - 1 = (t.length : Int) by omega, w32_id (by omega) (by omega), b_X5_pop_19, up_eq, if_pos (by omega), Int.toNat_natCast, up_ne (by omega), h4 t.length (by omega), show t.length + 1 - 1 - t.length = 0 by omega, b_X5_pop_28]
      rfl
    · rw [← h1 c c1 c2]
      funext k
      rw [up_ne (by omega)]
    · rw [up_ne (by omega)]
      exact h2 k hk
    · rw [up_eq]
      rfl
    · have hj2 : j < t.length := hj
      rw [up_ne (by omega), h4 j (by omega), show t.length + 1 - 1 - j = (t.length - 1 - j) + 1 by omega]
      rfl
theorem k_truth (x : Int) : qE L xs (d + 1) nX5_truth [(0, x)] (qS v) = some (some (0, if x = 0 then 0 else 1), qS v) := by
  rw [e_X5_truth, b_X5_truth_0]
  by_cases h : x = 0
  · rw [if_pos h, if_pos h, b_X5_truth_8, b_X5_truth_9]
  · rw [if_neg h, if_neg h, b_X5_truth_4, b_X5_truth_9]
theorem k_joined (c a w : Int) : qE L xs (d + 2) nX5_joined [(0, c), (0, a), (0, w)] (qS v) = some (some (0, jn c a w), qS v) := by
  have t1 : qE L xs (d + 1) nX5_truth [(0, 1)] (qS v) = some (some (0, 1), qS v) := k_truth 1
  have t0 : qE L xs (d + 1) nX5_truth [(0, 0)] (qS v) = some (some (0, 0), qS v) := k_truth 0
  rw [e_X5_joined]
  unfold jn
  by_cases c1 : c = 124
  · rw [if_pos c1, b_X5_joined_0_v124 (h := c1), b_X5_joined_84]
    by_cases h : a = 0
    · rw [if_pos h, b_X5_joined_88]
      by_cases h2 : w = 0
      · rw [if_pos h2, b_X5_joined_96, b_X5_joined_97, t0, qB_some, psh_some, b_X5_joined_100, if_neg (by omega)]
      · rw [if_neg h2, b_X5_joined_92, b_X5_joined_97, t1, qB_some, psh_some, b_X5_joined_100, if_pos (Or.inr h2)]
    · rw [if_neg h, b_X5_joined_92, b_X5_joined_97, t1, qB_some, psh_some, b_X5_joined_100, if_pos (Or.inl h)]
  · rw [if_neg c1]
    by_cases c2 : c = 38
    · rw [if_pos c2, b_X5_joined_0_v38 (h := c2), b_X5_joined_101]
      by_cases h : a = 0
      · rw [if_pos h, b_X5_joined_113, b_X5_joined_114, t0, qB_some, psh_some, b_X5_joined_117, if_neg (by omega)]
      · rw [if_neg h, b_X5_joined_105]
        by_cases h2 : w = 0
        · rw [if_pos h2, b_X5_joined_113, b_X5_joined_114, t0, qB_some, psh_some, b_X5_joined_117, if_neg (by omega)]
        · rw [if_neg h2, b_X5_joined_109, b_X5_joined_114, t1, qB_some, psh_some, b_X5_joined_117, if_pos ⟨h, h2⟩]
    · rw [if_neg c2]
      by_cases c3 : c = 60
      · rw [if_pos c3, b_X5_joined_0_v60 (h := c3), b_X5_joined_118]
        by_cases h : a < w
        · rw [if_pos h, if_pos h, b_X5_joined_123, b_X5_joined_128, t1, qB_some, psh_some, b_X5_joined_131]
        · rw [if_neg h, if_neg h, b_X5_joined_127, b_X5_joined_128, t0, qB_some, psh_some, b_X5_joined_131]
      · rw [if_neg c3]
        by_cases c4 : c = 61
        · rw [if_pos c4, b_X5_joined_0_v61 (h := c4), b_X5_joined_132]
          by_cases h : a = w
          · rw [if_pos h, if_pos h, b_X5_joined_137, b_X5_joined_142, t1, qB_some, psh_some, b_X5_joined_145]
          · rw [if_neg h, if_neg h, b_X5_joined_141, b_X5_joined_142, t0, qB_some, psh_some, b_X5_joined_145]
        · rw [if_neg c4]
          by_cases c5 : c = 62
          · rw [if_pos c5, b_X5_joined_0_v62 (h := c5), b_X5_joined_146]
            by_cases h : w < a
            · rw [if_pos h, if_pos h, b_X5_joined_151, b_X5_joined_156, t1, qB_some, psh_some, b_X5_joined_159]
            · rw [if_neg h, if_neg h, b_X5_joined_155, b_X5_joined_156, t0, qB_some, psh_some, b_X5_joined_159]
          · rw [if_neg c5]
            by_cases c6 : c = 43
            · rw [if_pos c6, b_X5_joined_0_v43 (h := c6), b_X5_joined_160]
            · rw [if_neg c6]
              by_cases c7 : c = 45
              · rw [if_pos c7, b_X5_joined_0_v45 (h := c7), b_X5_joined_164]
              · rw [if_neg c7]
                by_cases c8 : c = 42
                · rw [if_pos c8, b_X5_joined_0_v42 (h := c8), b_X5_joined_168]
                · rw [if_neg c8]
                  by_cases c9 : c = 47
                  · rw [if_pos c9, b_X5_joined_0_v47 (h := c9), b_X5_joined_172]
                    by_cases h : w = 0
                    · rw [if_pos h, if_pos h, b_X5_joined_176, b_X5_joined_183]
                    · rw [if_neg h, if_neg h, b_X5_joined_180, if_neg h, b_X5_joined_183]
                  · rw [if_neg c9, b_X5_joined_0_o (h := by omega), b_X5_joined_184]
                    by_cases h : w = 0
                    · rw [if_pos h, if_pos h, b_X5_joined_188, b_X5_joined_195]
                    · rw [if_neg h, if_neg h, b_X5_joined_192, if_neg h, b_X5_joined_195]
theorem tl_len (st : List Int) : st.tail.length ≤ st.length := by
  cases st with
  | nil => exact Nat.le_refl _
  | cons a t => exact Nat.le_succ _
theorem exS_len (nm : Nat → Int) (s : Int) (st : List Int) : (exS nm s st).length ≤ st.length + 1 := by
  have h1 := tl_len st
  have h2 := tl_len st.tail
  unfold exS
  split
  · exact Nat.le_refl _
  · split
    · exact Nat.le_refl _
    · split
      · rw [List.length_cons]
        omega
      · split
        · rw [List.length_cons]
          omega
        · rw [List.length_cons]
          omega
theorem k_sign {nm : Nat → Int} (hn : ∀ i, i < 6 → v 27 i = nm i) {st : List Int} (h : stO v w st) (hl : st.length < 120) {s : Int} (hs : plS s) : ∃ w', qE L xs (d + 4) nX5_workOutSign [(2, 23), (0, s)] (qS w) = some (none, qS w') ∧ stO v w' (exS nm s st) := by
  have h27 : w 27 = v 27 := h.1 27 (by omega) (by omega)
  have l1 := tl_len st
  have l2 := tl_len st.tail
  unfold plS at hs
  rw [e_X5_workOutSign, b_X5_workOutSign_0]
  unfold exS
  by_cases s1 : 0 ≤ s
  · obtain ⟨w1, e1, e2⟩ := k_push (L := L) (xs := xs) (d := d + 2) h hl s
    refine ⟨w1, ?_, ?_⟩
    · rw [if_neg (by omega), b_X5_workOutSign_4, show d + 3 = d + 2 + 1 from rfl, e1, qB_some, psh_none, b_X5_workOutSign_9, b_X5_workOutSign_102]
    · rw [if_pos s1]
      exact e2
  · rw [if_pos (by omega), b_X5_workOutSign_12, if_neg s1]
    by_cases s2 : -6 ≤ s
    · obtain ⟨w1, e1, e2⟩ := k_push (L := L) (xs := xs) (d := d + 2) h hl (nm (-1 - s).toNat)
      refine ⟨w1, ?_, ?_⟩
      · rw [if_neg (by rw [w32_id (by omega) (by omega)]; omega), b_X5_workOutSign_22, w32_id (z := -1 - s) (by omega) (by omega), if_pos (by omega), h27, hn _ (by omega), b_X5_workOutSign_31, show d + 3 = d + 2 + 1 from rfl, e1, qB_some, psh_none, b_X5_workOutSign_34, b_X5_workOutSign_102]
      · rw [if_pos s2]
        exact e2
    · rw [if_pos (by rw [w32_id (by omega) (by omega)]; omega), b_X5_workOutSign_37, if_neg s2]
      by_cases s3 : s = -126
      · obtain ⟨w1, e1, e2⟩ := k_pop (L := L) (xs := xs) (d := d + 2) h (by omega)
        obtain ⟨w2, e3, e4⟩ := k_push (L := L) (xs := xs) (d := d + 2) e2 (by omega) (w32 (-(st.headD 0)))
        refine ⟨w2, ?_, ?_⟩
        · rw [if_pos s3, b_X5_workOutSign_43, show d + 3 = d + 2 + 1 from rfl, e1, qB_some, psh_some, b_X5_workOutSign_48, e3, qB_some, psh_none, b_X5_workOutSign_52, b_X5_workOutSign_102]
        · rw [if_pos s3]
          exact e4
      · rw [if_neg s3, b_X5_workOutSign_55, if_neg s3]
        by_cases s4 : s = -33
        · obtain ⟨w1, e1, e2⟩ := k_pop (L := L) (xs := xs) (d := d + 2) h (by omega)
          obtain ⟨w2, e3, e4⟩ := k_push (L := L) (xs := xs) (d := d + 2) e2 (by omega) (if st.headD 0 = 0 then 1 else 0)
          refine ⟨w2, ?_, ?_⟩
          · have tr : qE L xs (d + 2 + 1) nX5_truth [(0, if st.headD 0 = 0 then 1 else 0)] (qS w1) = some (some (0, if st.headD 0 = 0 then 1 else 0), qS w1) := by
              rw [k_truth]
              by_cases q : st.headD 0 = 0
              · rw [if_pos q]
                rfl
              · rw [if_neg q]
                rfl
            have st1 : qG L xs (d + 2 + 1) CX5_workOutSign 66 [(2, 23), (0, s), (9, 0)] [(0, st.headD 0), (2, 23)] (qS w1) = qG L xs (d + 2 + 1) CX5_workOutSign 74 [(2, 23), (0, s), (9, 0)] [(0, if st.headD 0 = 0 then 1 else 0), (2, 23)] (qS w1) := by
              rw [b_X5_workOutSign_66]
              by_cases q : st.headD 0 = 0
              · rw [if_pos q, if_pos q, b_X5_workOutSign_69]
              · rw [if_neg q, if_neg q, b_X5_workOutSign_73]
            rw [if_pos s4, b_X5_workOutSign_61, show d + 3 = d + 2 + 1 from rfl, e1, qB_some, psh_some, st1, b_X5_workOutSign_74, tr, qB_some, psh_some, b_X5_workOutSign_77, e3, qB_some, psh_none, b_X5_workOutSign_80, b_X5_workOutSign_102]
          · rw [if_pos s4]
            exact e4
        · obtain ⟨w1, e1, e2⟩ := k_pop (L := L) (xs := xs) (d := d + 2) h (by omega)
          obtain ⟨w2, e3, e4⟩ := k_pop (L := L) (xs := xs) (d := d + 2) e2 (by omega)
          obtain ⟨w3, e5, e6⟩ := k_push (L := L) (xs := xs) (d := d + 2) e4 (by omega) (jn (-s) (st.tail.headD 0) (st.headD 0))
          have j1 : qE L xs (d + 2 + 1) nX5_joined [(0, -s), (0, st.tail.headD 0), (0, st.headD 0)] (qS w2) = some (some (0, jn (-s) (st.tail.headD 0) (st.headD 0)), qS w2) := k_joined (d := d + 1) _ _ _
          refine ⟨w3, ?_, ?_⟩
          · rw [if_neg s4, b_X5_workOutSign_83, show d + 3 = d + 2 + 1 from rfl, e1, qB_some, psh_some, b_X5_workOutSign_87, e3, qB_some, psh_some, b_X5_workOutSign_95, w32_id (z := -s) (by omega) (by omega), j1, qB_some, psh_some, b_X5_workOutSign_99, e5, qB_some, psh_none, b_X5_workOutSign_102]
          · rw [if_neg s4]
            exact e6
theorem stO_M {st : List Int} (h : stO v w st) : fM v w := ⟨fun c h1 _ h3 => h.1 c h1 h3, h.2.1⟩
theorem k_loop {nm : Nat → Int} (hn : ∀ i, i < 6 → v 27 i = nm i) {c : Nat} (hc : c = 25 ∨ c = 26) (h1 : v 23 1 = .ofNat c) (N : Nat) (h5 : v 23 5 = (N : Int)) (hN : N ≤ 121) : ∀ (l : List Int) (i : Nat) (st : List Int) (p : Int) (w : Nat → Nat → Int) (u3 : pm_V), stO v w st → st.length ≤ i → i + l.length + 1 = N → (∀ (j : Nat) (z : Int), (l ++ [-59])[j]? = some z → v c (i + j) = z) → (∀ s, s ∈ l → mkS s) → (p = 0 ∨ p = 1) → ∃ w', qG L xs (d + 5) CX5_workOut 9 [(2, 23), (0, p), (0, (i : Int)), u3] [] (qS w) = some (some (0, cwk nm (l ++ [-59]) st p), qS w') ∧ fM v w' := by
  have hs : pm_get SH c = some (1, 0, 121) := by rcases hc with rfl | rfl <;> rfl
  have hr : ∀ k, refAt c k = none := by rcases hc with rfl | rfl <;> exact nr_of rfl
  -- the sign at i
  have rd : ∀ (i : Nat) (st : List Int) (p : Int) (w : Nat → Nat → Int) (u3 : pm_V), stO v w st → i < N → qG L xs (d + 5) CX5_workOut 9 [(2, 23), (0, p), (0, (i : Int)), u3] [] (qS w) = qG L xs (d + 5) CX5_workOut 32 [(2, 23), (0, p), (0, (i : Int)), u3] [(0, v c i)] (qS w) := fun i st p w u3 h hi => by
    have w5 : w 23 5 = (N : Int) := by rw [h.2.1 5 (by omega), h5]
    have w1 : w 23 1 = .ofNat c := by rw [h.2.1 1 (by omega), h1]
    have wc : w c = v c := h.1 c (by omega) (by omega)
    rw [b_X5_workOut_9, w5, if_pos (by omega), b_X5_workOut_17, w1]
    refine (qG_alen rfl (by omega) hs).trans ?_
    show qG L xs (d + 5) CX5_workOut 23 [(2, 23), (0, p), (0, (i : Int)), u3] [(0, 121), (0, (i : Int))] (qS w) = _
    rw [b_X5_workOut_23, if_pos (by omega), b_X5_workOut_26, w1]
    refine (qG_ald2 (Or.inl ⟨rfl, rfl, rfl⟩) rfl (by omega) hs (by omega) (by omega) (hr _)).trans ?_
    rw [wc, Int.toNat_natCast]
  intro l
  induction l with
  | nil =>
    intro i st p w u3 h hl hi hv hm hp
    have v0 : v c i = -59 := hv 0 (-59) rfl
    have hi2 : i + 0 + 1 = N := hi
    rw [rd i st p w u3 h (by omega), v0, b_X5_workOut_32, if_pos rfl, b_X5_workOut_39]
    rcases hp with rfl | rfl
    · obtain ⟨w1, e1, e2⟩ := k_pop (L := L) (xs := xs) (d := d + 4) h (by omega)
      refine ⟨w1, ?_, stO_M e2⟩
      rw [if_pos rfl, b_X5_workOut_43, show d + 5 = d + 4 + 1 from rfl, e1, qB_some, psh_some, b_X5_workOut_47]
      rfl
    · refine ⟨w, ?_, stO_M h⟩
      rw [if_neg (by decide), b_X5_workOut_48, b_X5_workOut_84, w32_id (by omega) (by omega), b_X5_workOut_9, h.2.1 5 (by omega), h5, if_neg (by omega), b_X5_workOut_90]
      rfl
  | cons s l ih =>
    intro i st p w u3 h hl hi hv hm hp
    have hi2 : i + (l.length + 1) + 1 = N := hi
    have f1 : i + 1 + l.length + 1 = N := by omega
    have f2 : st.length < 120 := by omega
    have f3 : st.length ≤ i + 1 := by omega
    have f4 : i < N := by omega
    have v0 : v c i = s := hv 0 s rfl
    have hv2 : ∀ (j : Nat) (z : Int), (l ++ [-59])[j]? = some z → v c (i + 1 + j) = z := fun j z hz => by
      rw [show i + 1 + j = i + (j + 1) by omega]
      exact hv (j + 1) z hz
    have hm2 : ∀ s, s ∈ l → mkS s := fun z hz => hm z (List.mem_cons_of_mem s hz)
    have hms := hm s List.mem_cons_self
    have wi : w32 ((i : Int) + 1) = ((i + 1 : Nat) : Int) := by rw [w32_id (by omega) (by omega)]; omega
    rw [rd i st p w u3 h f4, v0, b_X5_workOut_32]
    show ∃ w', _ = some (some (0, cwk nm (s :: (l ++ [-59])) st p), qS w') ∧ _
    by_cases s1 : s = -59
    · subst s1
      rw [if_pos rfl, b_X5_workOut_39]
      rcases hp with rfl | rfl
      · obtain ⟨w1, e1, e2⟩ := k_pop (L := L) (xs := xs) (d := d + 4) h (Nat.le_of_lt f2)
        refine ⟨w1, ?_, stO_M e2⟩
        rw [if_pos rfl, b_X5_workOut_43, show d + 5 = d + 4 + 1 from rfl, e1, qB_some, psh_some, b_X5_workOut_47, cwk_e0]
      · obtain ⟨w1, e1, e2⟩ := ih (i + 1) st 0 w (0, -59) h f3 f1 hv2 hm2 (Or.inl rfl)
        refine ⟨w1, ?_, e2⟩
        rw [if_neg (by decide), b_X5_workOut_48, b_X5_workOut_84, wi, cwk_e1]
        exact e1
    · rw [if_neg s1, b_X5_workOut_53]
      by_cases s2 : s = -63
      · subst s2
        obtain ⟨w1, e1, e2⟩ := k_pop (L := L) (xs := xs) (d := d + 4) h (Nat.le_of_lt f2)
        have tl := tl_len st
        obtain ⟨w2, e3, e4⟩ := ih (i + 1) st.tail (if st.headD 0 = 0 then 1 else 0) w1 (0, -63) e2 (Nat.le_trans tl f3) f1 hv2 hm2 (by split; exact Or.inr rfl; exact Or.inl rfl)
        refine ⟨w2, ?_, e4⟩
        have st1 : qG L xs (d + 5) CX5_workOut 63 [(2, 23), (0, p), (0, (i : Int)), (0, -63)] [(0, st.headD 0)] (qS w1) = qG L xs (d + 5) CX5_workOut 71 [(2, 23), (0, p), (0, (i : Int)), (0, -63)] [(0, if st.headD 0 = 0 then 1 else 0)] (qS w1) := by
          rw [b_X5_workOut_63]
          by_cases q : st.headD 0 = 0
          · rw [if_pos q, if_pos q, b_X5_workOut_66]
          · rw [if_neg q, if_neg q, b_X5_workOut_70]
        rw [if_pos rfl, b_X5_workOut_59, show d + 5 = d + 4 + 1 from rfl, e1, qB_some, psh_some, show d + 4 + 1 = d + 5 from rfl, st1, b_X5_workOut_71, b_X5_workOut_84, wi, cwk_if]
        exact e3
      · have pl : plS s := by
          rcases hms with q | q | q
          · exact q
          · exact absurd q s2
          · exact absurd q s1
        rw [if_neg s2, b_X5_workOut_75]
        rcases hp with rfl | rfl
        · obtain ⟨w1, e1, e2⟩ := k_sign (L := L) (xs := xs) (d := d + 1) hn h f2 pl
          have el := exS_len nm s st
          obtain ⟨w2, e3, e4⟩ := ih (i + 1) _ 0 w1 (0, s) e2 (Nat.le_trans el (Nat.add_le_add_right hl 1)) f1 hv2 hm2 (Or.inl rfl)
          refine ⟨w2, ?_, e4⟩
          rw [if_pos rfl, b_X5_workOut_79, show d + 5 = d + 1 + 4 from rfl, e1, qB_some, psh_none, show d + 1 + 4 = d + 5 from rfl, b_X5_workOut_84, wi, cwk_c0 pl]
          exact e3
        · obtain ⟨w2, e3, e4⟩ := ih (i + 1) st 1 w (0, s) h f3 f1 hv2 hm2 (Or.inr rfl)
          refine ⟨w2, ?_, e4⟩
          rw [if_neg (by decide), b_X5_workOut_84, wi, cwk_c1 pl]
          exact e3
theorem k_workOut {nm : Nat → Int} (hn : ∀ i, i < 6 → v 27 i = nm i) {c : Nat} (hc : c = 25 ∨ c = 26) (h1 : v 23 1 = .ofNat c) {l : List Int} (h5 : v 23 5 = ((l ++ [-59]).length : Int)) (hN : (l ++ [-59]).length ≤ 121) (hv : ∀ (j : Nat) (z : Int), (l ++ [-59])[j]? = some z → v c j = z) (hm : ∀ s, s ∈ l → mkS s) : ∃ w', qE L xs (d + 6) nX5_workOut [(2, 23)] (qS v) = some (some (0, cwk nm (l ++ [-59]) [] 0), qS w') ∧ fM v w' := by
  have hl : (l ++ [-59]).length = l.length + 1 := by
    rw [List.length_append]
    rfl
  have st0 : stO (pm_up v 23 7 0) (pm_up v 23 7 0) [] := ⟨fun _ _ _ => rfl, fun _ _ => rfl, up_eq _ _ _ _, fun j hj => absurd hj (Nat.not_lt_zero j)⟩
  obtain ⟨w', e1, e2⟩ := k_loop (L := L) (xs := xs) (d := d) (v := pm_up v 23 7 0) (nm := nm) (fun i hi => by rw [up_ne (by omega)]; exact hn i hi) hc (by rw [up_ne (by omega)]; exact h1) (l.length + 1) (by rw [up_ne (by omega), h5, hl]) (by omega) l 0 [] 0 _ (9, 0) st0 (Nat.le_refl _) (by omega) (fun j z hz => by rw [up_ne (by omega), Nat.zero_add]; exact hv j z hz) hm (Or.inl rfl)
  refine ⟨w', ?_, fun c a1 a2 a3 => ?_, fun k hk => ?_⟩
  · rw [show d + 6 = d + 5 + 1 from rfl, e_X5_workOut, b_X5_workOut_0, b_X5_workOut_5]
    exact e1
  · rw [e2.1 c a1 a2 a3]
    funext k
    rw [up_ne (by omega)]
  · rw [e2.2 k hk, up_ne (by omega)]
end OTH
