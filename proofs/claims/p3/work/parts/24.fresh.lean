/-! THE FIRST STATE, number by number; THE LAW from there (written by wip/p1/24.fresh.py) -/
section FR
variable {v : Nat → Nat → Int}
theorem f_0_11 (h : Fresh v) : v 0 11 = 0 := fresh_at h 0 11 1 0 (by decide) 11 (by decide) (by decide)
theorem f_1_1 (h : Fresh v) : v 1 1 = 0 := fresh_at h 1 1 2 0 (by decide) 1 (by decide) (by decide)
theorem f_1_2 (h : Fresh v) : v 1 2 = 0 := fresh_at h 1 1 2 0 (by decide) 2 (by decide) (by decide)
theorem f_3_0_r (h : Fresh v) (i : Nat) (h1 : 0 ≤ i) (h2 : i < 30) : v 3 i = 4 := fresh_at h 3 0 30 4 (by decide) i h1 (by omega)
theorem f_4_0_r (h : Fresh v) (i : Nat) (h1 : 0 ≤ i) (h2 : i < 30) : v 4 i = 50 := fresh_at h 4 0 30 50 (by decide) i h1 (by omega)
theorem f_5_0_r (h : Fresh v) (i : Nat) (h1 : 0 ≤ i) (h2 : i < 30) : v 5 i = (-1) := fresh_at h 5 0 30 (-1) (by decide) i h1 (by omega)
theorem f_6_0_r (h : Fresh v) (i : Nat) (h1 : 0 ≤ i) (h2 : i < 30) : v 6 i = 1 := fresh_at h 6 0 30 1 (by decide) i h1 (by omega)
theorem f_7_0_r (h : Fresh v) (i : Nat) (h1 : 0 ≤ i) (h2 : i < 30) : v 7 i = 1 := fresh_at h 7 0 30 1 (by decide) i h1 (by omega)
theorem f_8_0_r (h : Fresh v) (i : Nat) (h1 : 0 ≤ i) (h2 : i < 30) : v 8 i = 1 := fresh_at h 8 0 30 1 (by decide) i h1 (by omega)
theorem f_9_0_r (h : Fresh v) (i : Nat) (h1 : 0 ≤ i) (h2 : i < 30) : v 9 i = 1 := fresh_at h 9 0 30 1 (by decide) i h1 (by omega)
theorem f_10_0_r (h : Fresh v) (i : Nat) (h1 : 0 ≤ i) (h2 : i < 30) : v 10 i = 2 := fresh_at h 10 0 30 2 (by decide) i h1 (by omega)
theorem f_11_0 (h : Fresh v) : v 11 0 = 12 := fresh_at h 11 0 30 12 (by decide) 0 (by decide) (by decide)
theorem f_11_0_r (h : Fresh v) (i : Nat) (h1 : 0 ≤ i) (h2 : i < 30) : v 11 i = 12 := fresh_at h 11 0 30 12 (by decide) i h1 (by omega)
theorem f_12_0 (h : Fresh v) : v 12 0 = 3 := fresh_at h 12 0 30 3 (by decide) 0 (by decide) (by decide)
theorem f_12_0_r (h : Fresh v) (i : Nat) (h1 : 0 ≤ i) (h2 : i < 30) : v 12 i = 3 := fresh_at h 12 0 30 3 (by decide) i h1 (by omega)
theorem f_13_0 (h : Fresh v) : v 13 0 = 1 := fresh_at h 13 0 30 1 (by decide) 0 (by decide) (by decide)
theorem f_13_0_r (h : Fresh v) (i : Nat) (h1 : 0 ≤ i) (h2 : i < 30) : v 13 i = 1 := fresh_at h 13 0 30 1 (by decide) i h1 (by omega)
theorem f_14_0 (h : Fresh v) : v 14 0 = 3 := fresh_at h 14 0 30 3 (by decide) 0 (by decide) (by decide)
theorem f_14_0_r (h : Fresh v) (i : Nat) (h1 : 0 ≤ i) (h2 : i < 30) : v 14 i = 3 := fresh_at h 14 0 30 3 (by decide) i h1 (by omega)
theorem f_18_4 (h : Fresh v) : v 18 4 = 0 := fresh_at h 18 4 2 0 (by decide) 4 (by decide) (by decide)
theorem f_18_5 (h : Fresh v) : v 18 5 = 0 := fresh_at h 18 4 2 0 (by decide) 5 (by decide) (by decide)
theorem f_23_1 (h : Fresh v) : v 23 1 = 25 := fresh_at h 23 1 1 25 (by decide) 1 (by decide) (by decide)
theorem f_23_2 (h : Fresh v) : v 23 2 = 26 := fresh_at h 23 2 1 26 (by decide) 2 (by decide) (by decide)
theorem f_23_5 (h : Fresh v) : v 23 5 = 0 := fresh_at h 23 5 6 0 (by decide) 5 (by decide) (by decide)
theorem f_23_10 (h : Fresh v) : v 23 10 = 0 := fresh_at h 23 5 6 0 (by decide) 10 (by decide) (by decide)
theorem f_38_0 (h : Fresh v) : v 38 0 = 39 := fresh_at h 38 0 1 39 (by decide) 0 (by decide) (by decide)
theorem f_38_1 (h : Fresh v) : v 38 1 = 40 := fresh_at h 38 1 1 40 (by decide) 1 (by decide) (by decide)
theorem f_42_0_r (h : Fresh v) (i : Nat) (h1 : 0 ≤ i) (h2 : i < 36) : v 42 i = 0 := fresh_at h 42 0 36 0 (by decide) i h1 (by omega)
theorem f_47_0 (h : Fresh v) : v 47 0 = 0 := fresh_at h 47 0 4 0 (by decide) 0 (by decide) (by decide)
theorem f_47_1 (h : Fresh v) : v 47 1 = 0 := fresh_at h 47 0 4 0 (by decide) 1 (by decide) (by decide)
theorem f_47_2 (h : Fresh v) : v 47 2 = 0 := fresh_at h 47 0 4 0 (by decide) 2 (by decide) (by decide)
theorem f_47_3 (h : Fresh v) : v 47 3 = 0 := fresh_at h 47 0 4 0 (by decide) 3 (by decide) (by decide)
theorem f_49_2 (h : Fresh v) : v 49 2 = 0 := fresh_at h 49 2 2 0 (by decide) 2 (by decide) (by decide)
theorem f_49_3 (h : Fresh v) : v 49 3 = 0 := fresh_at h 49 2 2 0 (by decide) 3 (by decide) (by decide)
theorem f_53_0_r (h : Fresh v) (i : Nat) (h1 : 0 ≤ i) (h2 : i < 6) : v 53 i = (-1) := fresh_at h 53 0 6 (-1) (by decide) i h1 (by omega)
theorem f_63_4 (h : Fresh v) : v 63 4 = 0 := fresh_at h 63 4 3 0 (by decide) 4 (by decide) (by decide)
theorem f_63_5 (h : Fresh v) : v 63 5 = 0 := fresh_at h 63 4 3 0 (by decide) 5 (by decide) (by decide)
theorem f_63_6 (h : Fresh v) : v 63 6 = 0 := fresh_at h 63 4 3 0 (by decide) 6 (by decide) (by decide)
theorem f_63_8 (h : Fresh v) : v 63 8 = 0 := fresh_at h 63 8 1 0 (by decide) 8 (by decide) (by decide)
theorem f_63_12 (h : Fresh v) : v 63 12 = 0 := fresh_at h 63 12 1 0 (by decide) 12 (by decide) (by decide)
theorem f_63_14 (h : Fresh v) : v 63 14 = (-1) := fresh_at h 63 14 1 (-1) (by decide) 14 (by decide) (by decide)
theorem f_63_22 (h : Fresh v) : v 63 22 = (-1) := fresh_at h 63 22 3 (-1) (by decide) 22 (by decide) (by decide)
theorem f_63_23 (h : Fresh v) : v 63 23 = (-1) := fresh_at h 63 22 3 (-1) (by decide) 23 (by decide) (by decide)
theorem f_63_24 (h : Fresh v) : v 63 24 = (-1) := fresh_at h 63 22 3 (-1) (by decide) 24 (by decide) (by decide)
theorem f_63_32 (h : Fresh v) : v 63 32 = 0 := fresh_at h 63 32 5 0 (by decide) 32 (by decide) (by decide)
theorem f_63_33 (h : Fresh v) : v 63 33 = 0 := fresh_at h 63 32 5 0 (by decide) 33 (by decide) (by decide)
theorem f_63_34 (h : Fresh v) : v 63 34 = 0 := fresh_at h 63 32 5 0 (by decide) 34 (by decide) (by decide)
theorem f_63_35 (h : Fresh v) : v 63 35 = 0 := fresh_at h 63 32 5 0 (by decide) 35 (by decide) (by decide)
theorem f_63_36 (h : Fresh v) : v 63 36 = 0 := fresh_at h 63 32 5 0 (by decide) 36 (by decide) (by decide)
theorem f_63_39 (h : Fresh v) : v 63 39 = 0 := fresh_at h 63 39 1 0 (by decide) 39 (by decide) (by decide)
theorem f_63_42 (h : Fresh v) : v 63 42 = 0 := fresh_at h 63 42 3 0 (by decide) 42 (by decide) (by decide)
theorem f_64_0_r (h : Fresh v) (i : Nat) (h1 : 0 ≤ i) (h2 : i < 30) : v 64 i = 4 := fresh_at h 64 0 30 4 (by decide) i h1 (by omega)
theorem f_64_30_r (h : Fresh v) (i : Nat) (h1 : 30 ≤ i) (h2 : i < 60) : v 64 i = 50 := fresh_at h 64 30 30 50 (by decide) i h1 (by omega)
theorem f_64_60_r (h : Fresh v) (i : Nat) (h1 : 60 ≤ i) (h2 : i < 90) : v 64 i = (-1) := fresh_at h 64 60 30 (-1) (by decide) i h1 (by omega)
theorem f_64_138_r (h : Fresh v) (i : Nat) (h1 : 138 ≤ i) (h2 : i < 140) : v 64 i = 2 := fresh_at h 64 138 2 2 (by decide) i h1 (by omega)
theorem f_64_140 (h : Fresh v) : v 64 140 = 12 := fresh_at h 64 140 1 12 (by decide) 140 (by decide) (by decide)
theorem f_64_141 (h : Fresh v) : v 64 141 = 3 := fresh_at h 64 141 1 3 (by decide) 141 (by decide) (by decide)
theorem f_64_142 (h : Fresh v) : v 64 142 = 1 := fresh_at h 64 142 1 1 (by decide) 142 (by decide) (by decide)
theorem f_64_143 (h : Fresh v) : v 64 143 = 3 := fresh_at h 64 143 1 3 (by decide) 143 (by decide) (by decide)
theorem f_79_0_r (h : Fresh v) (i : Nat) (h1 : 0 ≤ i) (h2 : i < 36) : v 79 i = 0 := fresh_at h 79 0 36 0 (by decide) i h1 (by omega)
theorem f_86_0_r (h : Fresh v) (i : Nat) (h1 : 0 ≤ i) (h2 : i < 6) : v 86 i = (-1) := fresh_at h 86 0 6 (-1) (by decide) i h1 (by omega)
/-- the reference's own numbers are those of the first state -/
def M0 (v : Nat → Nat → Int) : Prop := ∃ u, Fresh u ∧ ∀ c k, 63 ≤ c → v c k = u c k
theorem M0_of (h : Fresh v) : M0 v := ⟨v, h, fun _ _ _ => rfl⟩
theorem g_63_4 (h : M0 v) : v 63 4 = 0 := by
  obtain ⟨u, h1, h2⟩ := h
  rw [h2 _ _ (by decide), f_63_4 h1]
theorem g_63_5 (h : M0 v) : v 63 5 = 0 := by
  obtain ⟨u, h1, h2⟩ := h
  rw [h2 _ _ (by decide), f_63_5 h1]
theorem g_63_6 (h : M0 v) : v 63 6 = 0 := by
  obtain ⟨u, h1, h2⟩ := h
  rw [h2 _ _ (by decide), f_63_6 h1]
theorem g_63_8 (h : M0 v) : v 63 8 = 0 := by
  obtain ⟨u, h1, h2⟩ := h
  rw [h2 _ _ (by decide), f_63_8 h1]
theorem g_63_12 (h : M0 v) : v 63 12 = 0 := by
  obtain ⟨u, h1, h2⟩ := h
  rw [h2 _ _ (by decide), f_63_12 h1]
theorem g_63_14 (h : M0 v) : v 63 14 = (-1) := by
  obtain ⟨u, h1, h2⟩ := h
  rw [h2 _ _ (by decide), f_63_14 h1]
theorem g_63_22 (h : M0 v) : v 63 22 = (-1) := by
  obtain ⟨u, h1, h2⟩ := h
  rw [h2 _ _ (by decide), f_63_22 h1]
theorem g_63_23 (h : M0 v) : v 63 23 = (-1) := by
  obtain ⟨u, h1, h2⟩ := h
  rw [h2 _ _ (by decide), f_63_23 h1]
theorem g_63_24 (h : M0 v) : v 63 24 = (-1) := by
  obtain ⟨u, h1, h2⟩ := h
  rw [h2 _ _ (by decide), f_63_24 h1]
theorem g_63_32 (h : M0 v) : v 63 32 = 0 := by
  obtain ⟨u, h1, h2⟩ := h
  rw [h2 _ _ (by decide), f_63_32 h1]
theorem g_63_33 (h : M0 v) : v 63 33 = 0 := by
  obtain ⟨u, h1, h2⟩ := h
  rw [h2 _ _ (by decide), f_63_33 h1]
theorem g_63_34 (h : M0 v) : v 63 34 = 0 := by
  obtain ⟨u, h1, h2⟩ := h
  rw [h2 _ _ (by decide), f_63_34 h1]
theorem g_63_35 (h : M0 v) : v 63 35 = 0 := by
  obtain ⟨u, h1, h2⟩ := h
  rw [h2 _ _ (by decide), f_63_35 h1]
theorem g_63_36 (h : M0 v) : v 63 36 = 0 := by
  obtain ⟨u, h1, h2⟩ := h
  rw [h2 _ _ (by decide), f_63_36 h1]
theorem g_63_39 (h : M0 v) : v 63 39 = 0 := by
  obtain ⟨u, h1, h2⟩ := h
  rw [h2 _ _ (by decide), f_63_39 h1]
theorem g_63_42 (h : M0 v) : v 63 42 = 0 := by
  obtain ⟨u, h1, h2⟩ := h
  rw [h2 _ _ (by decide), f_63_42 h1]
theorem g_64_0_r (h : M0 v) (i : Nat) (h1 : 0 ≤ i) (h2 : i < 30) : v 64 i = 4 := by
  obtain ⟨u, h3, h4⟩ := h
  rw [h4 _ _ (by decide), f_64_0_r h3 i h1 h2]
theorem g_64_30_r (h : M0 v) (i : Nat) (h1 : 30 ≤ i) (h2 : i < 60) : v 64 i = 50 := by
  obtain ⟨u, h3, h4⟩ := h
  rw [h4 _ _ (by decide), f_64_30_r h3 i h1 h2]
theorem g_64_60_r (h : M0 v) (i : Nat) (h1 : 60 ≤ i) (h2 : i < 90) : v 64 i = (-1) := by
  obtain ⟨u, h3, h4⟩ := h
  rw [h4 _ _ (by decide), f_64_60_r h3 i h1 h2]
theorem g_64_138_r (h : M0 v) (i : Nat) (h1 : 138 ≤ i) (h2 : i < 140) : v 64 i = 2 := by
  obtain ⟨u, h3, h4⟩ := h
  rw [h4 _ _ (by decide), f_64_138_r h3 i h1 h2]
theorem g_64_140 (h : M0 v) : v 64 140 = 12 := by
  obtain ⟨u, h1, h2⟩ := h
  rw [h2 _ _ (by decide), f_64_140 h1]
theorem g_64_141 (h : M0 v) : v 64 141 = 3 := by
  obtain ⟨u, h1, h2⟩ := h
  rw [h2 _ _ (by decide), f_64_141 h1]
theorem g_64_142 (h : M0 v) : v 64 142 = 1 := by
  obtain ⟨u, h1, h2⟩ := h
  rw [h2 _ _ (by decide), f_64_142 h1]
theorem g_64_143 (h : M0 v) : v 64 143 = 3 := by
  obtain ⟨u, h1, h2⟩ := h
  rw [h2 _ _ (by decide), f_64_143 h1]
theorem g_79_0_r (h : M0 v) (i : Nat) (h1 : 0 ≤ i) (h2 : i < 36) : v 79 i = 0 := by
  obtain ⟨u, h3, h4⟩ := h
  rw [h4 _ _ (by decide), f_79_0_r h3 i h1 h2]
theorem g_86_0_r (h : M0 v) (i : Nat) (h1 : 0 ≤ i) (h2 : i < 6) : v 86 i = (-1) := by
  obtain ⟨u, h3, h4⟩ := h
  rw [h4 _ _ (by decide), f_86_0_r h3 i h1 h2]
end FR
