/-! THE FIRST STATE, number by number; THE LAW from there (written by wip/p1/24.fresh.py) -/
section FR
variable {v : Nat → Nat → Int}
theorem f_0_11 (h : Fresh v) : v 0 11 = 0 := fresh_at h 0 11 1 0 (by decide) 11 (by decide) (by decide)
theorem f_1_1 (h : Fresh v) : v 1 1 = 0 := fresh_at h 1 1 2 0 (by decide) 1 (by decide) (by decide)
theorem f_1_2 (h : Fresh v) : v 1 2 = 0 := fresh_at h 1 1 2 0 (by decide) 2 (by decide) (by decide)
theorem f_1_1_r (h : Fresh v) (i : Nat) (h1 : 1 ≤ i) (h2 : i < 3) : v 1 i = 0 := fresh_at h 1 1 2 0 (by decide) i h1 (by omega)
theorem f_3_0 (h : Fresh v) : v 3 0 = 4 := fresh_at h 3 0 30 4 (by decide) 0 (by decide) (by decide)
theorem f_3_0_r (h : Fresh v) (i : Nat) (h1 : 0 ≤ i) (h2 : i < 30) : v 3 i = 4 := fresh_at h 3 0 30 4 (by decide) i h1 (by omega)
theorem f_4_0 (h : Fresh v) : v 4 0 = 50 := fresh_at h 4 0 30 50 (by decide) 0 (by decide) (by decide)
theorem f_4_0_r (h : Fresh v) (i : Nat) (h1 : 0 ≤ i) (h2 : i < 30) : v 4 i = 50 := fresh_at h 4 0 30 50 (by decide) i h1 (by omega)
theorem f_5_0 (h : Fresh v) : v 5 0 = (-1) := fresh_at h 5 0 30 (-1) (by decide) 0 (by decide) (by decide)
theorem f_5_0_r (h : Fresh v) (i : Nat) (h1 : 0 ≤ i) (h2 : i < 30) : v 5 i = (-1) := fresh_at h 5 0 30 (-1) (by decide) i h1 (by omega)
theorem f_6_0 (h : Fresh v) : v 6 0 = 1 := fresh_at h 6 0 30 1 (by decide) 0 (by decide) (by decide)
theorem f_6_0_r (h : Fresh v) (i : Nat) (h1 : 0 ≤ i) (h2 : i < 30) : v 6 i = 1 := fresh_at h 6 0 30 1 (by decide) i h1 (by omega)
theorem f_7_0 (h : Fresh v) : v 7 0 = 1 := fresh_at h 7 0 30 1 (by decide) 0 (by decide) (by decide)
theorem f_7_0_r (h : Fresh v) (i : Nat) (h1 : 0 ≤ i) (h2 : i < 30) : v 7 i = 1 := fresh_at h 7 0 30 1 (by decide) i h1 (by omega)
theorem f_8_0 (h : Fresh v) : v 8 0 = 1 := fresh_at h 8 0 30 1 (by decide) 0 (by decide) (by decide)
theorem f_8_0_r (h : Fresh v) (i : Nat) (h1 : 0 ≤ i) (h2 : i < 30) : v 8 i = 1 := fresh_at h 8 0 30 1 (by decide) i h1 (by omega)
theorem f_9_0 (h : Fresh v) : v 9 0 = 1 := fresh_at h 9 0 30 1 (by decide) 0 (by decide) (by decide)
theorem f_9_0_r (h : Fresh v) (i : Nat) (h1 : 0 ≤ i) (h2 : i < 30) : v 9 i = 1 := fresh_at h 9 0 30 1 (by decide) i h1 (by omega)
theorem f_10_0 (h : Fresh v) : v 10 0 = 2 := fresh_at h 10 0 30 2 (by decide) 0 (by decide) (by decide)
theorem f_10_0_r (h : Fresh v) (i : Nat) (h1 : 0 ≤ i) (h2 : i < 30) : v 10 i = 2 := fresh_at h 10 0 30 2 (by decide) i h1 (by omega)
theorem f_11_0 (h : Fresh v) : v 11 0 = 12 := fresh_at h 11 0 30 12 (by decide) 0 (by decide) (by decide)
theorem f_11_0_r (h : Fresh v) (i : Nat) (h1 : 0 ≤ i) (h2 : i < 30) : v 11 i = 12 := fresh_at h 11 0 30 12 (by decide) i h1 (by omega)
theorem f_12_0 (h : Fresh v) : v 12 0 = 3 := fresh_at h 12 0 30 3 (by decide) 0 (by decide) (by decide)
theorem f_12_0_r (h : Fresh v) (i : Nat) (h1 : 0 ≤ i) (h2 : i < 30) : v 12 i = 3 := fresh_at h 12 0 30 3 (by decide) i h1 (by omega)
theorem f_13_0 (h : Fresh v) : v 13 0 = 1 := fresh_at h 13 0 30 1 (by decide) 0 (by decide) (by decide)
theorem f_13_0_r (h : Fresh v) (i : Nat) (h1 : 0 ≤ i) (h2 : i < 30) : v 13 i = 1 := fresh_at h 13 0 30 1 (by decide) i h1 (by omega)
theorem f_14_0 (h : Fresh v) : v 14 0 = 3 := fresh_at h 14 0 30 3 (by decide) 0 (by decide) (by decide)
theorem f_14_0_r (h : Fresh v) (i : Nat) (h1 : 0 ≤ i) (h2 : i < 30) : v 14 i = 3 := fresh_at h 14 0 30 3 (by decide) i h1 (by omega)
theorem f_18_4 (h : Fresh v) : v 18 4 = 0 := fresh_at h 18 4 2 0 (by decide) 4 (by decide) (by decide)
theorem f_18_5 (h : Fresh v) : v 18 5 = 0 := fresh_at h 18 4 2 0 (by decide) 5 (by decide) (by decide)
theorem f_18_4_r (h : Fresh v) (i : Nat) (h1 : 4 ≤ i) (h2 : i < 6) : v 18 i = 0 := fresh_at h 18 4 2 0 (by decide) i h1 (by omega)
theorem f_23_1 (h : Fresh v) : v 23 1 = 25 := fresh_at h 23 1 1 25 (by decide) 1 (by decide) (by decide)
theorem f_23_2 (h : Fresh v) : v 23 2 = 26 := fresh_at h 23 2 1 26 (by decide) 2 (by decide) (by decide)
theorem f_23_5 (h : Fresh v) : v 23 5 = 0 := fresh_at h 23 5 6 0 (by decide) 5 (by decide) (by decide)
theorem f_23_6 (h : Fresh v) : v 23 6 = 0 := fresh_at h 23 5 6 0 (by decide) 6 (by decide) (by decide)
theorem f_23_7 (h : Fresh v) : v 23 7 = 0 := fresh_at h 23 5 6 0 (by decide) 7 (by decide) (by decide)
theorem f_23_8 (h : Fresh v) : v 23 8 = 0 := fresh_at h 23 5 6 0 (by decide) 8 (by decide) (by decide)
theorem f_23_9 (h : Fresh v) : v 23 9 = 0 := fresh_at h 23 5 6 0 (by decide) 9 (by decide) (by decide)
theorem f_23_10 (h : Fresh v) : v 23 10 = 0 := fresh_at h 23 5 6 0 (by decide) 10 (by decide) (by decide)
theorem f_23_5_r (h : Fresh v) (i : Nat) (h1 : 5 ≤ i) (h2 : i < 11) : v 23 i = 0 := fresh_at h 23 5 6 0 (by decide) i h1 (by omega)
theorem f_29_8 (h : Fresh v) : v 29 8 = 0 := fresh_at h 29 8 2 0 (by decide) 8 (by decide) (by decide)
theorem f_29_9 (h : Fresh v) : v 29 9 = 0 := fresh_at h 29 8 2 0 (by decide) 9 (by decide) (by decide)
theorem f_29_8_r (h : Fresh v) (i : Nat) (h1 : 8 ≤ i) (h2 : i < 10) : v 29 i = 0 := fresh_at h 29 8 2 0 (by decide) i h1 (by omega)
theorem f_38_0 (h : Fresh v) : v 38 0 = 39 := fresh_at h 38 0 1 39 (by decide) 0 (by decide) (by decide)
theorem f_38_1 (h : Fresh v) : v 38 1 = 40 := fresh_at h 38 1 1 40 (by decide) 1 (by decide) (by decide)
theorem f_38_2 (h : Fresh v) : v 38 2 = 0 := fresh_at h 38 2 1 0 (by decide) 2 (by decide) (by decide)
theorem f_42_0 (h : Fresh v) : v 42 0 = 0 := fresh_at h 42 0 36 0 (by decide) 0 (by decide) (by decide)
theorem f_42_0_r (h : Fresh v) (i : Nat) (h1 : 0 ≤ i) (h2 : i < 36) : v 42 i = 0 := fresh_at h 42 0 36 0 (by decide) i h1 (by omega)
theorem f_47_0 (h : Fresh v) : v 47 0 = 0 := fresh_at h 47 0 4 0 (by decide) 0 (by decide) (by decide)
theorem f_47_1 (h : Fresh v) : v 47 1 = 0 := fresh_at h 47 0 4 0 (by decide) 1 (by decide) (by decide)
theorem f_47_2 (h : Fresh v) : v 47 2 = 0 := fresh_at h 47 0 4 0 (by decide) 2 (by decide) (by decide)
theorem f_47_3 (h : Fresh v) : v 47 3 = 0 := fresh_at h 47 0 4 0 (by decide) 3 (by decide) (by decide)
theorem f_47_0_r (h : Fresh v) (i : Nat) (h1 : 0 ≤ i) (h2 : i < 4) : v 47 i = 0 := fresh_at h 47 0 4 0 (by decide) i h1 (by omega)
theorem f_48_0 (h : Fresh v) : v 48 0 = 0 := fresh_at h 48 0 4 0 (by decide) 0 (by decide) (by decide)
theorem f_48_1 (h : Fresh v) : v 48 1 = 0 := fresh_at h 48 0 4 0 (by decide) 1 (by decide) (by decide)
theorem f_48_2 (h : Fresh v) : v 48 2 = 0 := fresh_at h 48 0 4 0 (by decide) 2 (by decide) (by decide)
theorem f_48_3 (h : Fresh v) : v 48 3 = 0 := fresh_at h 48 0 4 0 (by decide) 3 (by decide) (by decide)
theorem f_48_0_r (h : Fresh v) (i : Nat) (h1 : 0 ≤ i) (h2 : i < 4) : v 48 i = 0 := fresh_at h 48 0 4 0 (by decide) i h1 (by omega)
theorem f_49_2 (h : Fresh v) : v 49 2 = 0 := fresh_at h 49 2 2 0 (by decide) 2 (by decide) (by decide)
theorem f_49_3 (h : Fresh v) : v 49 3 = 0 := fresh_at h 49 2 2 0 (by decide) 3 (by decide) (by decide)
theorem f_49_2_r (h : Fresh v) (i : Nat) (h1 : 2 ≤ i) (h2 : i < 4) : v 49 i = 0 := fresh_at h 49 2 2 0 (by decide) i h1 (by omega)
theorem f_53_0 (h : Fresh v) : v 53 0 = (-1) := fresh_at h 53 0 6 (-1) (by decide) 0 (by decide) (by decide)
theorem f_53_1 (h : Fresh v) : v 53 1 = (-1) := fresh_at h 53 0 6 (-1) (by decide) 1 (by decide) (by decide)
theorem f_53_2 (h : Fresh v) : v 53 2 = (-1) := fresh_at h 53 0 6 (-1) (by decide) 2 (by decide) (by decide)
theorem f_53_3 (h : Fresh v) : v 53 3 = (-1) := fresh_at h 53 0 6 (-1) (by decide) 3 (by decide) (by decide)
theorem f_53_4 (h : Fresh v) : v 53 4 = (-1) := fresh_at h 53 0 6 (-1) (by decide) 4 (by decide) (by decide)
theorem f_53_5 (h : Fresh v) : v 53 5 = (-1) := fresh_at h 53 0 6 (-1) (by decide) 5 (by decide) (by decide)
theorem f_53_0_r (h : Fresh v) (i : Nat) (h1 : 0 ≤ i) (h2 : i < 6) : v 53 i = (-1) := fresh_at h 53 0 6 (-1) (by decide) i h1 (by omega)
theorem f_63_4 (h : Fresh v) : v 63 4 = 0 := fresh_at h 63 4 3 0 (by decide) 4 (by decide) (by decide)
theorem f_63_5 (h : Fresh v) : v 63 5 = 0 := fresh_at h 63 4 3 0 (by decide) 5 (by decide) (by decide)
theorem f_63_6 (h : Fresh v) : v 63 6 = 0 := fresh_at h 63 4 3 0 (by decide) 6 (by decide) (by decide)
theorem f_63_4_r (h : Fresh v) (i : Nat) (h1 : 4 ≤ i) (h2 : i < 7) : v 63 i = 0 := fresh_at h 63 4 3 0 (by decide) i h1 (by omega)
theorem f_63_8 (h : Fresh v) : v 63 8 = 0 := fresh_at h 63 8 1 0 (by decide) 8 (by decide) (by decide)
theorem f_63_12 (h : Fresh v) : v 63 12 = 0 := fresh_at h 63 12 1 0 (by decide) 12 (by decide) (by decide)
theorem f_63_14 (h : Fresh v) : v 63 14 = (-1) := fresh_at h 63 14 1 (-1) (by decide) 14 (by decide) (by decide)
theorem f_63_15 (h : Fresh v) : v 63 15 = 0 := fresh_at h 63 15 5 0 (by decide) 15 (by decide) (by decide)
theorem f_63_16 (h : Fresh v) : v 63 16 = 0 := fresh_at h 63 15 5 0 (by decide) 16 (by decide) (by decide)
theorem f_63_17 (h : Fresh v) : v 63 17 = 0 := fresh_at h 63 15 5 0 (by decide) 17 (by decide) (by decide)
theorem f_63_18 (h : Fresh v) : v 63 18 = 0 := fresh_at h 63 15 5 0 (by decide) 18 (by decide) (by decide)
theorem f_63_19 (h : Fresh v) : v 63 19 = 0 := fresh_at h 63 15 5 0 (by decide) 19 (by decide) (by decide)
theorem f_63_15_r (h : Fresh v) (i : Nat) (h1 : 15 ≤ i) (h2 : i < 20) : v 63 i = 0 := fresh_at h 63 15 5 0 (by decide) i h1 (by omega)
theorem f_63_22 (h : Fresh v) : v 63 22 = (-1) := fresh_at h 63 22 3 (-1) (by decide) 22 (by decide) (by decide)
theorem f_63_23 (h : Fresh v) : v 63 23 = (-1) := fresh_at h 63 22 3 (-1) (by decide) 23 (by decide) (by decide)
theorem f_63_24 (h : Fresh v) : v 63 24 = (-1) := fresh_at h 63 22 3 (-1) (by decide) 24 (by decide) (by decide)
theorem f_63_22_r (h : Fresh v) (i : Nat) (h1 : 22 ≤ i) (h2 : i < 25) : v 63 i = (-1) := fresh_at h 63 22 3 (-1) (by decide) i h1 (by omega)
theorem f_63_32 (h : Fresh v) : v 63 32 = 0 := fresh_at h 63 32 5 0 (by decide) 32 (by decide) (by decide)
theorem f_63_33 (h : Fresh v) : v 63 33 = 0 := fresh_at h 63 32 5 0 (by decide) 33 (by decide) (by decide)
theorem f_63_34 (h : Fresh v) : v 63 34 = 0 := fresh_at h 63 32 5 0 (by decide) 34 (by decide) (by decide)
theorem f_63_35 (h : Fresh v) : v 63 35 = 0 := fresh_at h 63 32 5 0 (by decide) 35 (by decide) (by decide)
theorem f_63_36 (h : Fresh v) : v 63 36 = 0 := fresh_at h 63 32 5 0 (by decide) 36 (by decide) (by decide)
theorem f_63_32_r (h : Fresh v) (i : Nat) (h1 : 32 ≤ i) (h2 : i < 37) : v 63 i = 0 := fresh_at h 63 32 5 0 (by decide) i h1 (by omega)
theorem f_63_39 (h : Fresh v) : v 63 39 = 0 := fresh_at h 63 39 1 0 (by decide) 39 (by decide) (by decide)
theorem f_63_42 (h : Fresh v) : v 63 42 = 0 := fresh_at h 63 42 3 0 (by decide) 42 (by decide) (by decide)
theorem f_63_43 (h : Fresh v) : v 63 43 = 0 := fresh_at h 63 42 3 0 (by decide) 43 (by decide) (by decide)
theorem f_63_44 (h : Fresh v) : v 63 44 = 0 := fresh_at h 63 42 3 0 (by decide) 44 (by decide) (by decide)
theorem f_63_42_r (h : Fresh v) (i : Nat) (h1 : 42 ≤ i) (h2 : i < 45) : v 63 i = 0 := fresh_at h 63 42 3 0 (by decide) i h1 (by omega)
theorem f_64_0 (h : Fresh v) : v 64 0 = 4 := fresh_at h 64 0 30 4 (by decide) 0 (by decide) (by decide)
theorem f_64_0_r (h : Fresh v) (i : Nat) (h1 : 0 ≤ i) (h2 : i < 30) : v 64 i = 4 := fresh_at h 64 0 30 4 (by decide) i h1 (by omega)
theorem f_64_30 (h : Fresh v) : v 64 30 = 50 := fresh_at h 64 30 30 50 (by decide) 30 (by decide) (by decide)
theorem f_64_30_r (h : Fresh v) (i : Nat) (h1 : 30 ≤ i) (h2 : i < 60) : v 64 i = 50 := fresh_at h 64 30 30 50 (by decide) i h1 (by omega)
theorem f_64_60 (h : Fresh v) : v 64 60 = (-1) := fresh_at h 64 60 30 (-1) (by decide) 60 (by decide) (by decide)
theorem f_64_60_r (h : Fresh v) (i : Nat) (h1 : 60 ≤ i) (h2 : i < 90) : v 64 i = (-1) := fresh_at h 64 60 30 (-1) (by decide) i h1 (by omega)
theorem f_64_90 (h : Fresh v) : v 64 90 = 0 := fresh_at h 64 90 48 0 (by decide) 90 (by decide) (by decide)
theorem f_64_90_r (h : Fresh v) (i : Nat) (h1 : 90 ≤ i) (h2 : i < 138) : v 64 i = 0 := fresh_at h 64 90 48 0 (by decide) i h1 (by omega)
theorem f_64_138 (h : Fresh v) : v 64 138 = 2 := fresh_at h 64 138 2 2 (by decide) 138 (by decide) (by decide)
theorem f_64_139 (h : Fresh v) : v 64 139 = 2 := fresh_at h 64 138 2 2 (by decide) 139 (by decide) (by decide)
theorem f_64_138_r (h : Fresh v) (i : Nat) (h1 : 138 ≤ i) (h2 : i < 140) : v 64 i = 2 := fresh_at h 64 138 2 2 (by decide) i h1 (by omega)
theorem f_64_140 (h : Fresh v) : v 64 140 = 12 := fresh_at h 64 140 1 12 (by decide) 140 (by decide) (by decide)
theorem f_64_141 (h : Fresh v) : v 64 141 = 3 := fresh_at h 64 141 1 3 (by decide) 141 (by decide) (by decide)
theorem f_64_142 (h : Fresh v) : v 64 142 = 1 := fresh_at h 64 142 1 1 (by decide) 142 (by decide) (by decide)
theorem f_64_143 (h : Fresh v) : v 64 143 = 3 := fresh_at h 64 143 1 3 (by decide) 143 (by decide) (by decide)
theorem f_79_0 (h : Fresh v) : v 79 0 = 0 := fresh_at h 79 0 36 0 (by decide) 0 (by decide) (by decide)
theorem f_79_0_r (h : Fresh v) (i : Nat) (h1 : 0 ≤ i) (h2 : i < 36) : v 79 i = 0 := fresh_at h 79 0 36 0 (by decide) i h1 (by omega)
theorem f_86_0 (h : Fresh v) : v 86 0 = (-1) := fresh_at h 86 0 6 (-1) (by decide) 0 (by decide) (by decide)
theorem f_86_1 (h : Fresh v) : v 86 1 = (-1) := fresh_at h 86 0 6 (-1) (by decide) 1 (by decide) (by decide)
theorem f_86_2 (h : Fresh v) : v 86 2 = (-1) := fresh_at h 86 0 6 (-1) (by decide) 2 (by decide) (by decide)
theorem f_86_3 (h : Fresh v) : v 86 3 = (-1) := fresh_at h 86 0 6 (-1) (by decide) 3 (by decide) (by decide)
theorem f_86_4 (h : Fresh v) : v 86 4 = (-1) := fresh_at h 86 0 6 (-1) (by decide) 4 (by decide) (by decide)
theorem f_86_5 (h : Fresh v) : v 86 5 = (-1) := fresh_at h 86 0 6 (-1) (by decide) 5 (by decide) (by decide)
theorem f_86_0_r (h : Fresh v) (i : Nat) (h1 : 0 ≤ i) (h2 : i < 6) : v 86 i = (-1) := fresh_at h 86 0 6 (-1) (by decide) i h1 (by omega)
/-- the reference's own numbers are those of the first state -/
def M0 (v : Nat → Nat → Int) : Prop := ∃ u, Fresh u ∧ ∀ c k, 63 ≤ c → v c k = u c k
theorem M0_of (h : Fresh v) : M0 v := ⟨v, h, fun _ _ _ => rfl⟩
theorem M0_fr {w : Nat → Nat → Int} (h : M0 v) (hw : ∀ c k, 63 ≤ c → w c k = v c k) : M0 w := by
  obtain ⟨u, h1, h2⟩ := h
  exact ⟨u, h1, fun c k hc => (hw c k hc).trans (h2 c k hc)⟩
theorem M0_up {c k : Nat} {x : Int} (h : M0 v) (hc : c < 63) : M0 (pm_up v c k x) := M0_fr h (fun a i ha => if_neg (by omega))
theorem g_63_4 (h : M0 v) : v 63 4 = 0 := by
  obtain ⟨u, h1, h2⟩ := h
  rw [h2 _ _ (by decide), f_63_4 h1]
theorem g_63_5 (h : M0 v) : v 63 5 = 0 := by
  obtain ⟨u, h1, h2⟩ := h
  rw [h2 _ _ (by decide), f_63_5 h1]
theorem g_63_6 (h : M0 v) : v 63 6 = 0 := by
  obtain ⟨u, h1, h2⟩ := h
  rw [h2 _ _ (by decide), f_63_6 h1]
theorem g_63_4_r (h : M0 v) (i : Nat) (h1 : 4 ≤ i) (h2 : i < 7) : v 63 i = 0 := by
  obtain ⟨u, h3, h4⟩ := h
  rw [h4 _ _ (by decide), f_63_4_r h3 i h1 h2]
theorem g_63_8 (h : M0 v) : v 63 8 = 0 := by
  obtain ⟨u, h1, h2⟩ := h
  rw [h2 _ _ (by decide), f_63_8 h1]
theorem g_63_12 (h : M0 v) : v 63 12 = 0 := by
  obtain ⟨u, h1, h2⟩ := h
  rw [h2 _ _ (by decide), f_63_12 h1]
theorem g_63_14 (h : M0 v) : v 63 14 = (-1) := by
  obtain ⟨u, h1, h2⟩ := h
  rw [h2 _ _ (by decide), f_63_14 h1]
theorem g_63_15 (h : M0 v) : v 63 15 = 0 := by
  obtain ⟨u, h1, h2⟩ := h
  rw [h2 _ _ (by decide), f_63_15 h1]
theorem g_63_16 (h : M0 v) : v 63 16 = 0 := by
  obtain ⟨u, h1, h2⟩ := h
  rw [h2 _ _ (by decide), f_63_16 h1]
theorem g_63_17 (h : M0 v) : v 63 17 = 0 := by
  obtain ⟨u, h1, h2⟩ := h
  rw [h2 _ _ (by decide), f_63_17 h1]
theorem g_63_18 (h : M0 v) : v 63 18 = 0 := by
  obtain ⟨u, h1, h2⟩ := h
  rw [h2 _ _ (by decide), f_63_18 h1]
theorem g_63_19 (h : M0 v) : v 63 19 = 0 := by
  obtain ⟨u, h1, h2⟩ := h
  rw [h2 _ _ (by decide), f_63_19 h1]
theorem g_63_15_r (h : M0 v) (i : Nat) (h1 : 15 ≤ i) (h2 : i < 20) : v 63 i = 0 := by
  obtain ⟨u, h3, h4⟩ := h
  rw [h4 _ _ (by decide), f_63_15_r h3 i h1 h2]
theorem g_63_22 (h : M0 v) : v 63 22 = (-1) := by
  obtain ⟨u, h1, h2⟩ := h
  rw [h2 _ _ (by decide), f_63_22 h1]
theorem g_63_23 (h : M0 v) : v 63 23 = (-1) := by
  obtain ⟨u, h1, h2⟩ := h
  rw [h2 _ _ (by decide), f_63_23 h1]
theorem g_63_24 (h : M0 v) : v 63 24 = (-1) := by
  obtain ⟨u, h1, h2⟩ := h
  rw [h2 _ _ (by decide), f_63_24 h1]
theorem g_63_22_r (h : M0 v) (i : Nat) (h1 : 22 ≤ i) (h2 : i < 25) : v 63 i = (-1) := by
  obtain ⟨u, h3, h4⟩ := h
  rw [h4 _ _ (by decide), f_63_22_r h3 i h1 h2]
theorem g_63_32 (h : M0 v) : v 63 32 = 0 := by
  obtain ⟨u, h1, h2⟩ := h
  rw [h2 _ _ (by decide), f_63_32 h1]
theorem g_63_33 (h : M0 v) : v 63 33 = 0 := by
  obtain ⟨u, h1, h2⟩ := h
  rw [h2 _ _ (by decide), f_63_33 h1]
theorem g_63_34 (h : M0 v) : v 63 34 = 0 := by
  obtain ⟨u, h1, h2⟩ := h
  rw [h2 _ _ (by decide), f_63_34 h1]
theorem g_63_35 (h : M0 v) : v 63 35 = 0 := by
  obtain ⟨u, h1, h2⟩ := h
  rw [h2 _ _ (by decide), f_63_35 h1]
theorem g_63_36 (h : M0 v) : v 63 36 = 0 := by
  obtain ⟨u, h1, h2⟩ := h
  rw [h2 _ _ (by decide), f_63_36 h1]
theorem g_63_32_r (h : M0 v) (i : Nat) (h1 : 32 ≤ i) (h2 : i < 37) : v 63 i = 0 := by
  obtain ⟨u, h3, h4⟩ := h
  rw [h4 _ _ (by decide), f_63_32_r h3 i h1 h2]
theorem g_63_39 (h : M0 v) : v 63 39 = 0 := by
  obtain ⟨u, h1, h2⟩ := h
  rw [h2 _ _ (by decide), f_63_39 h1]
theorem g_63_42 (h : M0 v) : v 63 42 = 0 := by
  obtain ⟨u, h1, h2⟩ := h
  rw [h2 _ _ (by decide), f_63_42 h1]
theorem g_63_43 (h : M0 v) : v 63 43 = 0 := by
  obtain ⟨u, h1, h2⟩ := h
  rw [h2 _ _ (by decide), f_63_43 h1]
theorem g_63_44 (h : M0 v) : v 63 44 = 0 := by
  obtain ⟨u, h1, h2⟩ := h
  rw [h2 _ _ (by decide), f_63_44 h1]
theorem g_63_42_r (h : M0 v) (i : Nat) (h1 : 42 ≤ i) (h2 : i < 45) : v 63 i = 0 := by
  obtain ⟨u, h3, h4⟩ := h
  rw [h4 _ _ (by decide), f_63_42_r h3 i h1 h2]
theorem g_64_0 (h : M0 v) : v 64 0 = 4 := by
  obtain ⟨u, h1, h2⟩ := h
  rw [h2 _ _ (by decide), f_64_0 h1]
theorem g_64_0_r (h : M0 v) (i : Nat) (h1 : 0 ≤ i) (h2 : i < 30) : v 64 i = 4 := by
  obtain ⟨u, h3, h4⟩ := h
  rw [h4 _ _ (by decide), f_64_0_r h3 i h1 h2]
theorem g_64_30 (h : M0 v) : v 64 30 = 50 := by
  obtain ⟨u, h1, h2⟩ := h
  rw [h2 _ _ (by decide), f_64_30 h1]
theorem g_64_30_r (h : M0 v) (i : Nat) (h1 : 30 ≤ i) (h2 : i < 60) : v 64 i = 50 := by
  obtain ⟨u, h3, h4⟩ := h
  rw [h4 _ _ (by decide), f_64_30_r h3 i h1 h2]
theorem g_64_60 (h : M0 v) : v 64 60 = (-1) := by
  obtain ⟨u, h1, h2⟩ := h
  rw [h2 _ _ (by decide), f_64_60 h1]
theorem g_64_60_r (h : M0 v) (i : Nat) (h1 : 60 ≤ i) (h2 : i < 90) : v 64 i = (-1) := by
  obtain ⟨u, h3, h4⟩ := h
  rw [h4 _ _ (by decide), f_64_60_r h3 i h1 h2]
theorem g_64_90 (h : M0 v) : v 64 90 = 0 := by
  obtain ⟨u, h1, h2⟩ := h
  rw [h2 _ _ (by decide), f_64_90 h1]
theorem g_64_90_r (h : M0 v) (i : Nat) (h1 : 90 ≤ i) (h2 : i < 138) : v 64 i = 0 := by
  obtain ⟨u, h3, h4⟩ := h
  rw [h4 _ _ (by decide), f_64_90_r h3 i h1 h2]
theorem g_64_138 (h : M0 v) : v 64 138 = 2 := by
  obtain ⟨u, h1, h2⟩ := h
  rw [h2 _ _ (by decide), f_64_138 h1]
theorem g_64_139 (h : M0 v) : v 64 139 = 2 := by
  obtain ⟨u, h1, h2⟩ := h
  rw [h2 _ _ (by decide), f_64_139 h1]
theorem g_64_138_r (h : M0 v) (i : Nat) (h1 : 138 ≤ i) (h2 : i < 140) : v 64 i = 2 := by
  obtain ⟨u, h3, h4⟩ := h
  rw [h4 _ _ (by decide), f_64_138_r h3 i h1 h2]
theorem g_64_140 (h : M0 v) : v 64 140 = 12 := by
  obtain ⟨u, h1, h2⟩ := h
  rw [h2 _ _ (by decide), f_64_140 h1]
theorem g_64_141 (h : M0 v) : v 64 141 = 3 := by
  obtain ⟨u, h1, h2⟩ := h
  rw [h2 _ _ (by decide), f_64_141 h1]
theorem g_64_142 (h : M0 v) : v 64 142 = 1 := by
  obtain ⟨u, h1, h2⟩ := h
  rw [h2 _ _ (by decide), f_64_142 h1]
theorem g_64_143 (h : M0 v) : v 64 143 = 3 := by
  obtain ⟨u, h1, h2⟩ := h
  rw [h2 _ _ (by decide), f_64_143 h1]
theorem g_79_0 (h : M0 v) : v 79 0 = 0 := by
  obtain ⟨u, h1, h2⟩ := h
  rw [h2 _ _ (by decide), f_79_0 h1]
theorem g_79_0_r (h : M0 v) (i : Nat) (h1 : 0 ≤ i) (h2 : i < 36) : v 79 i = 0 := by
  obtain ⟨u, h3, h4⟩ := h
  rw [h4 _ _ (by decide), f_79_0_r h3 i h1 h2]
theorem g_86_0 (h : M0 v) : v 86 0 = (-1) := by
  obtain ⟨u, h1, h2⟩ := h
  rw [h2 _ _ (by decide), f_86_0 h1]
theorem g_86_1 (h : M0 v) : v 86 1 = (-1) := by
  obtain ⟨u, h1, h2⟩ := h
  rw [h2 _ _ (by decide), f_86_1 h1]
theorem g_86_2 (h : M0 v) : v 86 2 = (-1) := by
  obtain ⟨u, h1, h2⟩ := h
  rw [h2 _ _ (by decide), f_86_2 h1]
theorem g_86_3 (h : M0 v) : v 86 3 = (-1) := by
  obtain ⟨u, h1, h2⟩ := h
  rw [h2 _ _ (by decide), f_86_3 h1]
theorem g_86_4 (h : M0 v) : v 86 4 = (-1) := by
  obtain ⟨u, h1, h2⟩ := h
  rw [h2 _ _ (by decide), f_86_4 h1]
theorem g_86_5 (h : M0 v) : v 86 5 = (-1) := by
  obtain ⟨u, h1, h2⟩ := h
  rw [h2 _ _ (by decide), f_86_5 h1]
theorem g_86_0_r (h : M0 v) (i : Nat) (h1 : 0 ≤ i) (h2 : i < 6) : v 86 i = (-1) := by
  obtain ⟨u, h3, h4⟩ := h
  rw [h4 _ _ (by decide), f_86_0_r h3 i h1 h2]
end FR
/-- both answer, and alike -/
def pOK (L : Nat) (xs : Nat → Int) (v : Nat → Nat → Int) (y1 y2 t : Nat) (as : List pm_V) : Prop := ∃ r v1 v2, qE L xs 1000 y1 ((2, 0) :: as) (qS v) = some (some (t, r), qS v1) ∧ qE L xs 1000 y2 ((2, 63) :: as) (qS v1) = some (some (t, r), qS v2)
theorem pok {L : Nat} {xs : Nat → Int} {v : Nat → Nat → Int} {y1 y2 t : Nat} {as : List pm_V} {r : Int} (h1 : ∃ v1, M0 v1 ∧ qE L xs 1000 y1 ((2, 0) :: as) (qS v) = some (some (t, r), qS v1)) (h2 : ∀ v, M0 v → ∃ v2, qE L xs 1000 y2 ((2, 63) :: as) (qS v) = some (some (t, r), qS v2)) : pOK L xs v y1 y2 t as := by
  obtain ⟨v1, g1, e1⟩ := h1
  obtain ⟨v2, e2⟩ := h2 v1 g1
  exact ⟨r, v1, v2, e1, e2⟩
section LW
variable {xs : Nat → Int} {v : Nat → Nat → Int}
theorem law_go : qG 6 xs 1000 CL_law 18 [(2, 1005), (2, 0), (2, 63), (0, 0)] [] (qS v) = qG 6 xs 1000 CL_law 27 [(2, 1005), (2, 0), (2, 63), (0, 0)] [] (qS v) := by
  rw [b_law_18, w32_id (by omega) (by omega), if_neg (by omega)]
theorem law_end : qG 6 xs 1000 CL_law 1557 [(2, 1005), (2, 0), (2, 63), (0, 0)] [] (qS v) = some (some (0, 1), qS v) := by
  rw [b_law_1557, b_law_18, w32_id (by omega) (by omega), w32_id (by omega) (by omega), if_pos (by omega), b_law_1563]
theorem law_cast : ((6 : Nat) : Int) = 6 := rfl
theorem law_0 (hk : pm_and (xs 0) 63 = 0) (h : pOK 6 xs v nX11_hole nX12_hole 0 [(0, xs 1)]) : ∃ v2, qG 6 xs 1000 CL_law 18 [(2, 1005), (2, 0), (2, 63), (0, 0)] [] (qS v) = some (some (0, 1), qS v2) := by
  obtain ⟨r, v1, v2, h1, h2⟩ := h
  refine ⟨v2, ?_⟩
  simp (disch := omega) only [law_go, law_end, law_cast, b_law_27, b_law_30_v0 _ _ hk, b_law_224, b_law_230, b_law_233, b_law_239, b_law_242, b_law_245, h1, h2, w32_id, lc_eq, Int.lt_irrefl, Int.reduceSub, Int.reduceAdd, Int.zero_add, qB_some, psh_some, psh_none, and_true, true_and, and_false, false_and, and_self, or_true, true_or, or_false, false_or, not_true_eq_false, not_false_eq_true, ↓reduceIte, Int.reduceEq, Int.reduceLT, Int.reduceLE, Int.reduceToNat, Nat.reduceEqDiff, Nat.reduceAdd]
theorem law_1 (hk : pm_and (xs 0) 63 = 1) (h : pOK 6 xs v nX11_lane nX12_lane 0 [(0, xs 1)]) : ∃ v2, qG 6 xs 1000 CL_law 18 [(2, 1005), (2, 0), (2, 63), (0, 0)] [] (qS v) = some (some (0, 1), qS v2) := by
  obtain ⟨r, v1, v2, h1, h2⟩ := h
  refine ⟨v2, ?_⟩
  simp (disch := omega) only [law_go, law_end, law_cast, b_law_27, b_law_30_v1 _ _ hk, b_law_247, b_law_253, b_law_256, b_law_262, b_law_265, b_law_268, h1, h2, w32_id, lc_eq, Int.lt_irrefl, Int.reduceSub, Int.reduceAdd, Int.zero_add, qB_some, psh_some, psh_none, and_true, true_and, and_false, false_and, and_self, or_true, true_or, or_false, false_or, not_true_eq_false, not_false_eq_true, ↓reduceIte, Int.reduceEq, Int.reduceLT, Int.reduceLE, Int.reduceToNat, Nat.reduceEqDiff, Nat.reduceAdd]
theorem law_2 (hk : pm_and (xs 0) 63 = 2) (h : pOK 6 xs v nX11_mend nX12_mend 0 [(0, xs 1), (0, xs 2), (0, xs 3)]) : ∃ v2, qG 6 xs 1000 CL_law 18 [(2, 1005), (2, 0), (2, 63), (0, 0)] [] (qS v) = some (some (0, 1), qS v2) := by
  obtain ⟨r, v1, v2, h1, h2⟩ := h
  refine ⟨v2, ?_⟩
  simp (disch := omega) only [law_go, law_end, law_cast, b_law_27, b_law_30_v2 _ _ hk, b_law_270, b_law_276, b_law_281, b_law_286, b_law_289, b_law_295, b_law_300, b_law_305, b_law_308, b_law_311, h1, h2, w32_id, lc_eq, Int.lt_irrefl, Int.reduceSub, Int.reduceAdd, Int.zero_add, qB_some, psh_some, psh_none, and_true, true_and, and_false, false_and, and_self, or_true, true_or, or_false, false_or, not_true_eq_false, not_false_eq_true, ↓reduceIte, Int.reduceEq, Int.reduceLT, Int.reduceLE, Int.reduceToNat, Nat.reduceEqDiff, Nat.reduceAdd]
theorem law_3 (hk : pm_and (xs 0) 63 = 3) (h : pOK 6 xs v nX11_of nX12_of 0 [(0, xs 1), (0, xs 2)]) : ∃ v2, qG 6 xs 1000 CL_law 18 [(2, 1005), (2, 0), (2, 63), (0, 0)] [] (qS v) = some (some (0, 1), qS v2) := by
  obtain ⟨r, v1, v2, h1, h2⟩ := h
  refine ⟨v2, ?_⟩
  simp (disch := omega) only [law_go, law_end, law_cast, b_law_27, b_law_30_v3 _ _ hk, b_law_313, b_law_319, b_law_324, b_law_327, b_law_333, b_law_338, b_law_341, b_law_344, h1, h2, w32_id, lc_eq, Int.lt_irrefl, Int.reduceSub, Int.reduceAdd, Int.zero_add, qB_some, psh_some, psh_none, and_true, true_and, and_false, false_and, and_self, or_true, true_or, or_false, false_or, not_true_eq_false, not_false_eq_true, ↓reduceIte, Int.reduceEq, Int.reduceLT, Int.reduceLE, Int.reduceToNat, Nat.reduceEqDiff, Nat.reduceAdd]
theorem law_4 (hk : pm_and (xs 0) 63 = 4) (h : pOK 6 xs v nX11_yards nX12_yards 0 [(0, xs 1), (0, xs 2), (0, xs 3)]) : ∃ v2, qG 6 xs 1000 CL_law 18 [(2, 1005), (2, 0), (2, 63), (0, 0)] [] (qS v) = some (some (0, 1), qS v2) := by
  obtain ⟨r, v1, v2, h1, h2⟩ := h
  refine ⟨v2, ?_⟩
  simp (disch := omega) only [law_go, law_end, law_cast, b_law_27, b_law_30_v4 _ _ hk, b_law_346, b_law_352, b_law_357, b_law_362, b_law_365, b_law_371, b_law_376, b_law_381, b_law_384, b_law_387, h1, h2, w32_id, lc_eq, Int.lt_irrefl, Int.reduceSub, Int.reduceAdd, Int.zero_add, qB_some, psh_some, psh_none, and_true, true_and, and_false, false_and, and_self, or_true, true_or, or_false, false_or, not_true_eq_false, not_false_eq_true, ↓reduceIte, Int.reduceEq, Int.reduceLT, Int.reduceLE, Int.reduceToNat, Nat.reduceEqDiff, Nat.reduceAdd]
theorem law_5 (hk : pm_and (xs 0) 63 = 5) (h : pOK 6 xs v nX11_feed nX12_feed 0 [(0, xs 1)]) : ∃ v2, qG 6 xs 1000 CL_law 18 [(2, 1005), (2, 0), (2, 63), (0, 0)] [] (qS v) = some (some (0, 1), qS v2) := by
  obtain ⟨r, v1, v2, h1, h2⟩ := h
  refine ⟨v2, ?_⟩
  simp (disch := omega) only [law_go, law_end, law_cast, b_law_27, b_law_30_v5 _ _ hk, b_law_389, b_law_395, b_law_398, b_law_404, b_law_407, b_law_410, h1, h2, w32_id, lc_eq, Int.lt_irrefl, Int.reduceSub, Int.reduceAdd, Int.zero_add, qB_some, psh_some, psh_none, and_true, true_and, and_false, false_and, and_self, or_true, true_or, or_false, false_or, not_true_eq_false, not_false_eq_true, ↓reduceIte, Int.reduceEq, Int.reduceLT, Int.reduceLE, Int.reduceToNat, Nat.reduceEqDiff, Nat.reduceAdd]
theorem law_6 (hk : pm_and (xs 0) 63 = 6) (h : pOK 6 xs v nX11_law nX12_law 0 []) : ∃ v2, qG 6 xs 1000 CL_law 18 [(2, 1005), (2, 0), (2, 63), (0, 0)] [] (qS v) = some (some (0, 1), qS v2) := by
  obtain ⟨r, v1, v2, h1, h2⟩ := h
  refine ⟨v2, ?_⟩
  simp (disch := omega) only [law_go, law_end, law_cast, b_law_27, b_law_30_v6 _ _ hk, b_law_412, b_law_416, b_law_420, b_law_423, h1, h2, w32_id, lc_eq, Int.lt_irrefl, Int.reduceSub, Int.reduceAdd, Int.zero_add, qB_some, psh_some, psh_none, and_true, true_and, and_false, false_and, and_self, or_true, true_or, or_false, false_or, not_true_eq_false, not_false_eq_true, ↓reduceIte, Int.reduceEq, Int.reduceLT, Int.reduceLE, Int.reduceToNat, Nat.reduceEqDiff, Nat.reduceAdd]
theorem law_7 (hk : pm_and (xs 0) 63 = 7) (h : pOK 6 xs v nX11_way nX12_way 0 [(0, xs 1), (0, xs 2)]) : ∃ v2, qG 6 xs 1000 CL_law 18 [(2, 1005), (2, 0), (2, 63), (0, 0)] [] (qS v) = some (some (0, 1), qS v2) := by
  obtain ⟨r, v1, v2, h1, h2⟩ := h
  refine ⟨v2, ?_⟩
  simp (disch := omega) only [law_go, law_end, law_cast, b_law_27, b_law_30_v7 _ _ hk, b_law_425, b_law_431, b_law_436, b_law_439, b_law_445, b_law_450, b_law_453, b_law_456, h1, h2, w32_id, lc_eq, Int.lt_irrefl, Int.reduceSub, Int.reduceAdd, Int.zero_add, qB_some, psh_some, psh_none, and_true, true_and, and_false, false_and, and_self, or_true, true_or, or_false, false_or, not_true_eq_false, not_false_eq_true, ↓reduceIte, Int.reduceEq, Int.reduceLT, Int.reduceLE, Int.reduceToNat, Nat.reduceEqDiff, Nat.reduceAdd]
theorem law_8 (hk : pm_and (xs 0) 63 = 8) (h : pOK 6 xs v nX11_far nX12_far 0 [(0, xs 1), (0, xs 2)]) : ∃ v2, qG 6 xs 1000 CL_law 18 [(2, 1005), (2, 0), (2, 63), (0, 0)] [] (qS v) = some (some (0, 1), qS v2) := by
  obtain ⟨r, v1, v2, h1, h2⟩ := h
  refine ⟨v2, ?_⟩
  simp (disch := omega) only [law_go, law_end, law_cast, b_law_27, b_law_30_v8 _ _ hk, b_law_458, b_law_464, b_law_469, b_law_472, b_law_478, b_law_483, b_law_486, b_law_489, h1, h2, w32_id, lc_eq, Int.lt_irrefl, Int.reduceSub, Int.reduceAdd, Int.zero_add, qB_some, psh_some, psh_none, and_true, true_and, and_false, false_and, and_self, or_true, true_or, or_false, false_or, not_true_eq_false, not_false_eq_true, ↓reduceIte, Int.reduceEq, Int.reduceLT, Int.reduceLE, Int.reduceToNat, Nat.reduceEqDiff, Nat.reduceAdd]
theorem law_9 (hk : pm_and (xs 0) 63 = 9) (h : pOK 6 xs v nX11_reach nX12_reach 0 [(0, xs 1), (0, xs 2)]) : ∃ v2, qG 6 xs 1000 CL_law 18 [(2, 1005), (2, 0), (2, 63), (0, 0)] [] (qS v) = some (some (0, 1), qS v2) := by
  obtain ⟨r, v1, v2, h1, h2⟩ := h
  refine ⟨v2, ?_⟩
  simp (disch := omega) only [law_go, law_end, law_cast, b_law_27, b_law_30_v9 _ _ hk, b_law_491, b_law_497, b_law_502, b_law_505, b_law_511, b_law_516, b_law_519, b_law_522, h1, h2, w32_id, lc_eq, Int.lt_irrefl, Int.reduceSub, Int.reduceAdd, Int.zero_add, qB_some, psh_some, psh_none, and_true, true_and, and_false, false_and, and_self, or_true, true_or, or_false, false_or, not_true_eq_false, not_false_eq_true, ↓reduceIte, Int.reduceEq, Int.reduceLT, Int.reduceLE, Int.reduceToNat, Nat.reduceEqDiff, Nat.reduceAdd]
theorem law_10 (hk : pm_and (xs 0) 63 = 10) (h : pOK 6 xs v nX11_widest nX12_widest 0 []) : ∃ v2, qG 6 xs 1000 CL_law 18 [(2, 1005), (2, 0), (2, 63), (0, 0)] [] (qS v) = some (some (0, 1), qS v2) := by
  obtain ⟨r, v1, v2, h1, h2⟩ := h
  refine ⟨v2, ?_⟩
  simp (disch := omega) only [law_go, law_end, law_cast, b_law_27, b_law_30_v10 _ _ hk, b_law_524, b_law_528, b_law_532, b_law_535, h1, h2, w32_id, lc_eq, Int.lt_irrefl, Int.reduceSub, Int.reduceAdd, Int.zero_add, qB_some, psh_some, psh_none, and_true, true_and, and_false, false_and, and_self, or_true, true_or, or_false, false_or, not_true_eq_false, not_false_eq_true, ↓reduceIte, Int.reduceEq, Int.reduceLT, Int.reduceLE, Int.reduceToNat, Nat.reduceEqDiff, Nat.reduceAdd]
theorem law_11 (hk : pm_and (xs 0) 63 = 11) (h : pOK 6 xs v nX11_dig nX12_dig 0 [(0, xs 1)]) : ∃ v2, qG 6 xs 1000 CL_law 18 [(2, 1005), (2, 0), (2, 63), (0, 0)] [] (qS v) = some (some (0, 1), qS v2) := by
  obtain ⟨r, v1, v2, h1, h2⟩ := h
  refine ⟨v2, ?_⟩
  simp (disch := omega) only [law_go, law_end, law_cast, b_law_27, b_law_30_v11 _ _ hk, b_law_537, b_law_543, b_law_546, b_law_552, b_law_555, b_law_558, h1, h2, w32_id, lc_eq, Int.lt_irrefl, Int.reduceSub, Int.reduceAdd, Int.zero_add, qB_some, psh_some, psh_none, and_true, true_and, and_false, false_and, and_self, or_true, true_or, or_false, false_or, not_true_eq_false, not_false_eq_true, ↓reduceIte, Int.reduceEq, Int.reduceLT, Int.reduceLE, Int.reduceToNat, Nat.reduceEqDiff, Nat.reduceAdd]
theorem law_12 (hk : pm_and (xs 0) 63 = 12) (h : pOK 6 xs v nX11_spare nX12_spare 0 [(0, xs 1), (0, xs 2)]) : ∃ v2, qG 6 xs 1000 CL_law 18 [(2, 1005), (2, 0), (2, 63), (0, 0)] [] (qS v) = some (some (0, 1), qS v2) := by
  obtain ⟨r, v1, v2, h1, h2⟩ := h
  refine ⟨v2, ?_⟩
  simp (disch := omega) only [law_go, law_end, law_cast, b_law_27, b_law_30_v12 _ _ hk, b_law_560, b_law_566, b_law_571, b_law_574, b_law_580, b_law_585, b_law_588, b_law_591, h1, h2, w32_id, lc_eq, Int.lt_irrefl, Int.reduceSub, Int.reduceAdd, Int.zero_add, qB_some, psh_some, psh_none, and_true, true_and, and_false, false_and, and_self, or_true, true_or, or_false, false_or, not_true_eq_false, not_false_eq_true, ↓reduceIte, Int.reduceEq, Int.reduceLT, Int.reduceLE, Int.reduceToNat, Nat.reduceEqDiff, Nat.reduceAdd]
theorem law_13 (hk : pm_and (xs 0) 63 = 13) (h : pOK 6 xs v nX11_pace nX12_pace 0 [(0, xs 1), (0, xs 2), (0, xs 3)]) : ∃ v2, qG 6 xs 1000 CL_law 18 [(2, 1005), (2, 0), (2, 63), (0, 0)] [] (qS v) = some (some (0, 1), qS v2) := by
  obtain ⟨r, v1, v2, h1, h2⟩ := h
  refine ⟨v2, ?_⟩
  simp (disch := omega) only [law_go, law_end, law_cast, b_law_27, b_law_30_v13 _ _ hk, b_law_593, b_law_599, b_law_604, b_law_609, b_law_612, b_law_618, b_law_623, b_law_628, b_law_631, b_law_634, h1, h2, w32_id, lc_eq, Int.lt_irrefl, Int.reduceSub, Int.reduceAdd, Int.zero_add, qB_some, psh_some, psh_none, and_true, true_and, and_false, false_and, and_self, or_true, true_or, or_false, false_or, not_true_eq_false, not_false_eq_true, ↓reduceIte, Int.reduceEq, Int.reduceLT, Int.reduceLE, Int.reduceToNat, Nat.reduceEqDiff, Nat.reduceAdd]
theorem law_14 (hk : pm_and (xs 0) 63 = 14) (h : pOK 6 xs v nX11_meet nX12_meet 0 [(0, xs 1)]) : ∃ v2, qG 6 xs 1000 CL_law 18 [(2, 1005), (2, 0), (2, 63), (0, 0)] [] (qS v) = some (some (0, 1), qS v2) := by
  obtain ⟨r, v1, v2, h1, h2⟩ := h
  refine ⟨v2, ?_⟩
  simp (disch := omega) only [law_go, law_end, law_cast, b_law_27, b_law_30_v14 _ _ hk, b_law_636, b_law_642, b_law_645, b_law_651, b_law_654, b_law_657, h1, h2, w32_id, lc_eq, Int.lt_irrefl, Int.reduceSub, Int.reduceAdd, Int.zero_add, qB_some, psh_some, psh_none, and_true, true_and, and_false, false_and, and_self, or_true, true_or, or_false, false_or, not_true_eq_false, not_false_eq_true, ↓reduceIte, Int.reduceEq, Int.reduceLT, Int.reduceLE, Int.reduceToNat, Nat.reduceEqDiff, Nat.reduceAdd]
theorem law_15 (hk : pm_and (xs 0) 63 = 15) (h : pOK 6 xs v nX11_news nX12_news 0 [(0, xs 1)]) : ∃ v2, qG 6 xs 1000 CL_law 18 [(2, 1005), (2, 0), (2, 63), (0, 0)] [] (qS v) = some (some (0, 1), qS v2) := by
  obtain ⟨r, v1, v2, h1, h2⟩ := h
  refine ⟨v2, ?_⟩
  simp (disch := omega) only [law_go, law_end, law_cast, b_law_27, b_law_30_v15 _ _ hk, b_law_659, b_law_665, b_law_668, b_law_674, b_law_677, b_law_680, h1, h2, w32_id, lc_eq, Int.lt_irrefl, Int.reduceSub, Int.reduceAdd, Int.zero_add, qB_some, psh_some, psh_none, and_true, true_and, and_false, false_and, and_self, or_true, true_or, or_false, false_or, not_true_eq_false, not_false_eq_true, ↓reduceIte, Int.reduceEq, Int.reduceLT, Int.reduceLE, Int.reduceToNat, Nat.reduceEqDiff, Nat.reduceAdd]
theorem law_16 (hk : pm_and (xs 0) 63 = 16) (h : pOK 6 xs v nX11_heard nX12_heard 0 [(0, xs 1), (0, xs 2)]) : ∃ v2, qG 6 xs 1000 CL_law 18 [(2, 1005), (2, 0), (2, 63), (0, 0)] [] (qS v) = some (some (0, 1), qS v2) := by
  obtain ⟨r, v1, v2, h1, h2⟩ := h
  refine ⟨v2, ?_⟩
  simp (disch := omega) only [law_go, law_end, law_cast, b_law_27, b_law_30_v16 _ _ hk, b_law_682, b_law_688, b_law_693, b_law_696, b_law_702, b_law_707, b_law_710, b_law_713, h1, h2, w32_id, lc_eq, Int.lt_irrefl, Int.reduceSub, Int.reduceAdd, Int.zero_add, qB_some, psh_some, psh_none, and_true, true_and, and_false, false_and, and_self, or_true, true_or, or_false, false_or, not_true_eq_false, not_false_eq_true, ↓reduceIte, Int.reduceEq, Int.reduceLT, Int.reduceLE, Int.reduceToNat, Nat.reduceEqDiff, Nat.reduceAdd]
theorem law_17 (hk : pm_and (xs 0) 63 = 17) (h : pOK 6 xs v nX11_whence nX12_whence 0 [(0, xs 1), (0, xs 2), (0, xs 3)]) : ∃ v2, qG 6 xs 1000 CL_law 18 [(2, 1005), (2, 0), (2, 63), (0, 0)] [] (qS v) = some (some (0, 1), qS v2) := by
  obtain ⟨r, v1, v2, h1, h2⟩ := h
  refine ⟨v2, ?_⟩
  simp (disch := omega) only [law_go, law_end, law_cast, b_law_27, b_law_30_v17 _ _ hk, b_law_715, b_law_721, b_law_726, b_law_731, b_law_734, b_law_740, b_law_745, b_law_750, b_law_753, b_law_756, h1, h2, w32_id, lc_eq, Int.lt_irrefl, Int.reduceSub, Int.reduceAdd, Int.zero_add, qB_some, psh_some, psh_none, and_true, true_and, and_false, false_and, and_self, or_true, true_or, or_false, false_or, not_true_eq_false, not_false_eq_true, ↓reduceIte, Int.reduceEq, Int.reduceLT, Int.reduceLE, Int.reduceToNat, Nat.reduceEqDiff, Nat.reduceAdd]
theorem law_18 (hk : pm_and (xs 0) 63 = 18) (h : pOK 6 xs v nX11_frost nX12_frost 0 [(0, xs 1), (0, xs 2)]) : ∃ v2, qG 6 xs 1000 CL_law 18 [(2, 1005), (2, 0), (2, 63), (0, 0)] [] (qS v) = some (some (0, 1), qS v2) := by
  obtain ⟨r, v1, v2, h1, h2⟩ := h
  refine ⟨v2, ?_⟩
  simp (disch := omega) only [law_go, law_end, law_cast, b_law_27, b_law_30_v18 _ _ hk, b_law_758, b_law_764, b_law_769, b_law_772, b_law_778, b_law_783, b_law_786, b_law_789, h1, h2, w32_id, lc_eq, Int.lt_irrefl, Int.reduceSub, Int.reduceAdd, Int.zero_add, qB_some, psh_some, psh_none, and_true, true_and, and_false, false_and, and_self, or_true, true_or, or_false, false_or, not_true_eq_false, not_false_eq_true, ↓reduceIte, Int.reduceEq, Int.reduceLT, Int.reduceLE, Int.reduceToNat, Nat.reduceEqDiff, Nat.reduceAdd]
theorem law_19 (hk : pm_and (xs 0) 63 = 19) (h : pOK 6 xs v nX11_frozen nX12_frozen 0 [(0, xs 1)]) : ∃ v2, qG 6 xs 1000 CL_law 18 [(2, 1005), (2, 0), (2, 63), (0, 0)] [] (qS v) = some (some (0, 1), qS v2) := by
  obtain ⟨r, v1, v2, h1, h2⟩ := h
  refine ⟨v2, ?_⟩
  simp (disch := omega) only [law_go, law_end, law_cast, b_law_27, b_law_30_v19 _ _ hk, b_law_791, b_law_797, b_law_800, b_law_806, b_law_809, b_law_812, h1, h2, w32_id, lc_eq, Int.lt_irrefl, Int.reduceSub, Int.reduceAdd, Int.zero_add, qB_some, psh_some, psh_none, and_true, true_and, and_false, false_and, and_self, or_true, true_or, or_false, false_or, not_true_eq_false, not_false_eq_true, ↓reduceIte, Int.reduceEq, Int.reduceLT, Int.reduceLE, Int.reduceToNat, Nat.reduceEqDiff, Nat.reduceAdd]
theorem law_20 (hk : pm_and (xs 0) 63 = 20) (h : pOK 6 xs v nX11_tax nX12_tax 0 [(0, xs 1)]) : ∃ v2, qG 6 xs 1000 CL_law 18 [(2, 1005), (2, 0), (2, 63), (0, 0)] [] (qS v) = some (some (0, 1), qS v2) := by
  obtain ⟨r, v1, v2, h1, h2⟩ := h
  refine ⟨v2, ?_⟩
  simp (disch := omega) only [law_go, law_end, law_cast, b_law_27, b_law_30_v20 _ _ hk, b_law_814, b_law_820, b_law_823, b_law_829, b_law_832, b_law_835, h1, h2, w32_id, lc_eq, Int.lt_irrefl, Int.reduceSub, Int.reduceAdd, Int.zero_add, qB_some, psh_some, psh_none, and_true, true_and, and_false, false_and, and_self, or_true, true_or, or_false, false_or, not_true_eq_false, not_false_eq_true, ↓reduceIte, Int.reduceEq, Int.reduceLT, Int.reduceLE, Int.reduceToNat, Nat.reduceEqDiff, Nat.reduceAdd]
theorem law_21 (hk : pm_and (xs 0) 63 = 21) (h : pOK 6 xs v nX11_lend nX12_lend 0 [(0, xs 1), (0, xs 2)]) : ∃ v2, qG 6 xs 1000 CL_law 18 [(2, 1005), (2, 0), (2, 63), (0, 0)] [] (qS v) = some (some (0, 1), qS v2) := by
  obtain ⟨r, v1, v2, h1, h2⟩ := h
  refine ⟨v2, ?_⟩
  simp (disch := omega) only [law_go, law_end, law_cast, b_law_27, b_law_30_v21 _ _ hk, b_law_837, b_law_843, b_law_848, b_law_851, b_law_857, b_law_862, b_law_865, b_law_868, h1, h2, w32_id, lc_eq, Int.lt_irrefl, Int.reduceSub, Int.reduceAdd, Int.zero_add, qB_some, psh_some, psh_none, and_true, true_and, and_false, false_and, and_self, or_true, true_or, or_false, false_or, not_true_eq_false, not_false_eq_true, ↓reduceIte, Int.reduceEq, Int.reduceLT, Int.reduceLE, Int.reduceToNat, Nat.reduceEqDiff, Nat.reduceAdd]
theorem law_22 (hk : pm_and (xs 0) 63 = 22) (h : pOK 6 xs v nX11_bricks nX12_bricks 0 [(0, xs 1), (0, xs 2)]) : ∃ v2, qG 6 xs 1000 CL_law 18 [(2, 1005), (2, 0), (2, 63), (0, 0)] [] (qS v) = some (some (0, 1), qS v2) := by
  obtain ⟨r, v1, v2, h1, h2⟩ := h
  refine ⟨v2, ?_⟩
  simp (disch := omega) only [law_go, law_end, law_cast, b_law_27, b_law_30_v22 _ _ hk, b_law_870, b_law_876, b_law_881, b_law_884, b_law_890, b_law_895, b_law_898, b_law_901, h1, h2, w32_id, lc_eq, Int.lt_irrefl, Int.reduceSub, Int.reduceAdd, Int.zero_add, qB_some, psh_some, psh_none, and_true, true_and, and_false, false_and, and_self, or_true, true_or, or_false, false_or, not_true_eq_false, not_false_eq_true, ↓reduceIte, Int.reduceEq, Int.reduceLT, Int.reduceLE, Int.reduceToNat, Nat.reduceEqDiff, Nat.reduceAdd]
theorem law_23 (hk : pm_and (xs 0) 63 = 23) (h : pOK 6 xs v nX11_oneMan nX12_oneMan 0 [(0, xs 1)]) : ∃ v2, qG 6 xs 1000 CL_law 18 [(2, 1005), (2, 0), (2, 63), (0, 0)] [] (qS v) = some (some (0, 1), qS v2) := by
  obtain ⟨r, v1, v2, h1, h2⟩ := h
  refine ⟨v2, ?_⟩
  simp (disch := omega) only [law_go, law_end, law_cast, b_law_27, b_law_30_v23 _ _ hk, b_law_903, b_law_909, b_law_912, b_law_918, b_law_921, b_law_924, h1, h2, w32_id, lc_eq, Int.lt_irrefl, Int.reduceSub, Int.reduceAdd, Int.zero_add, qB_some, psh_some, psh_none, and_true, true_and, and_false, false_and, and_self, or_true, true_or, or_false, false_or, not_true_eq_false, not_false_eq_true, ↓reduceIte, Int.reduceEq, Int.reduceLT, Int.reduceLE, Int.reduceToNat, Nat.reduceEqDiff, Nat.reduceAdd]
theorem law_24 (hk : pm_and (xs 0) 63 = 24) (h : pOK 6 xs v nX11_where nX12_where 0 [(0, xs 1), (0, xs 2), (0, xs 3)]) : ∃ v2, qG 6 xs 1000 CL_law 18 [(2, 1005), (2, 0), (2, 63), (0, 0)] [] (qS v) = some (some (0, 1), qS v2) := by
  obtain ⟨r, v1, v2, h1, h2⟩ := h
  refine ⟨v2, ?_⟩
  simp (disch := omega) only [law_go, law_end, law_cast, b_law_27, b_law_30_v24 _ _ hk, b_law_926, b_law_932, b_law_937, b_law_942, b_law_945, b_law_951, b_law_956, b_law_961, b_law_964, b_law_967, h1, h2, w32_id, lc_eq, Int.lt_irrefl, Int.reduceSub, Int.reduceAdd, Int.zero_add, qB_some, psh_some, psh_none, and_true, true_and, and_false, false_and, and_self, or_true, true_or, or_false, false_or, not_true_eq_false, not_false_eq_true, ↓reduceIte, Int.reduceEq, Int.reduceLT, Int.reduceLE, Int.reduceToNat, Nat.reduceEqDiff, Nat.reduceAdd]
theorem law_25 (hk : pm_and (xs 0) 63 = 25) (h : pOK 6 xs v nX11_drawn nX12_drawn 0 [(0, xs 1), (0, xs 2), (0, xs 3), (0, xs 4)]) : ∃ v2, qG 6 xs 1000 CL_law 18 [(2, 1005), (2, 0), (2, 63), (0, 0)] [] (qS v) = some (some (0, 1), qS v2) := by
  obtain ⟨r, v1, v2, h1, h2⟩ := h
  refine ⟨v2, ?_⟩
  simp (disch := omega) only [law_go, law_end, law_cast, b_law_27, b_law_30_v25 _ _ hk, b_law_969, b_law_975, b_law_980, b_law_985, b_law_990, b_law_993, b_law_999, b_law_1004, b_law_1009, b_law_1014, b_law_1017, b_law_1020, h1, h2, w32_id, lc_eq, Int.lt_irrefl, Int.reduceSub, Int.reduceAdd, Int.zero_add, qB_some, psh_some, psh_none, and_true, true_and, and_false, false_and, and_self, or_true, true_or, or_false, false_or, not_true_eq_false, not_false_eq_true, ↓reduceIte, Int.reduceEq, Int.reduceLT, Int.reduceLE, Int.reduceToNat, Nat.reduceEqDiff, Nat.reduceAdd]
theorem law_26 (hk : pm_and (xs 0) 63 = 26) (h : pOK 6 xs v nX11_go nX12_go 0 [(0, xs 1)]) : ∃ v2, qG 6 xs 1000 CL_law 18 [(2, 1005), (2, 0), (2, 63), (0, 0)] [] (qS v) = some (some (0, 1), qS v2) := by
  obtain ⟨r, v1, v2, h1, h2⟩ := h
  refine ⟨v2, ?_⟩
  simp (disch := omega) only [law_go, law_end, law_cast, b_law_27, b_law_30_v26 _ _ hk, b_law_1022, b_law_1028, b_law_1031, b_law_1037, b_law_1040, b_law_1043, h1, h2, w32_id, lc_eq, Int.lt_irrefl, Int.reduceSub, Int.reduceAdd, Int.zero_add, qB_some, psh_some, psh_none, and_true, true_and, and_false, false_and, and_self, or_true, true_or, or_false, false_or, not_true_eq_false, not_false_eq_true, ↓reduceIte, Int.reduceEq, Int.reduceLT, Int.reduceLE, Int.reduceToNat, Nat.reduceEqDiff, Nat.reduceAdd]
theorem law_27 (hk : pm_and (xs 0) 63 = 27) (h : pOK 6 xs v nX11_digs nX12_digs 0 []) : ∃ v2, qG 6 xs 1000 CL_law 18 [(2, 1005), (2, 0), (2, 63), (0, 0)] [] (qS v) = some (some (0, 1), qS v2) := by
  obtain ⟨r, v1, v2, h1, h2⟩ := h
  refine ⟨v2, ?_⟩
  simp (disch := omega) only [law_go, law_end, law_cast, b_law_27, b_law_30_v27 _ _ hk, b_law_1045, b_law_1049, b_law_1053, b_law_1056, h1, h2, w32_id, lc_eq, Int.lt_irrefl, Int.reduceSub, Int.reduceAdd, Int.zero_add, qB_some, psh_some, psh_none, and_true, true_and, and_false, false_and, and_self, or_true, true_or, or_false, false_or, not_true_eq_false, not_false_eq_true, ↓reduceIte, Int.reduceEq, Int.reduceLT, Int.reduceLE, Int.reduceToNat, Nat.reduceEqDiff, Nat.reduceAdd]
theorem law_28 (hk : pm_and (xs 0) 63 = 28) (h : pOK 6 xs v nX11_turn nX12_turn 0 [(0, xs 1), (0, xs 2)]) : ∃ v2, qG 6 xs 1000 CL_law 18 [(2, 1005), (2, 0), (2, 63), (0, 0)] [] (qS v) = some (some (0, 1), qS v2) := by
  obtain ⟨r, v1, v2, h1, h2⟩ := h
  refine ⟨v2, ?_⟩
  simp (disch := omega) only [law_go, law_end, law_cast, b_law_27, b_law_30_v28 _ _ hk, b_law_1058, b_law_1064, b_law_1069, b_law_1072, b_law_1078, b_law_1083, b_law_1086, b_law_1089, h1, h2, w32_id, lc_eq, Int.lt_irrefl, Int.reduceSub, Int.reduceAdd, Int.zero_add, qB_some, psh_some, psh_none, and_true, true_and, and_false, false_and, and_self, or_true, true_or, or_false, false_or, not_true_eq_false, not_false_eq_true, ↓reduceIte, Int.reduceEq, Int.reduceLT, Int.reduceLE, Int.reduceToNat, Nat.reduceEqDiff, Nat.reduceAdd]
theorem law_29 (hk : pm_and (xs 0) 63 = 29) (h : pOK 6 xs v nX11_led nX12_led 0 [(0, xs 1)]) : ∃ v2, qG 6 xs 1000 CL_law 18 [(2, 1005), (2, 0), (2, 63), (0, 0)] [] (qS v) = some (some (0, 1), qS v2) := by
  obtain ⟨r, v1, v2, h1, h2⟩ := h
  refine ⟨v2, ?_⟩
  simp (disch := omega) only [law_go, law_end, law_cast, b_law_27, b_law_30_v29 _ _ hk, b_law_1091, b_law_1097, b_law_1100, b_law_1106, b_law_1109, b_law_1112, h1, h2, w32_id, lc_eq, Int.lt_irrefl, Int.reduceSub, Int.reduceAdd, Int.zero_add, qB_some, psh_some, psh_none, and_true, true_and, and_false, false_and, and_self, or_true, true_or, or_false, false_or, not_true_eq_false, not_false_eq_true, ↓reduceIte, Int.reduceEq, Int.reduceLT, Int.reduceLE, Int.reduceToNat, Nat.reduceEqDiff, Nat.reduceAdd]
theorem law_30 (hk : pm_and (xs 0) 63 = 30) (h : pOK 6 xs v nX11_image nX12_image 0 []) : ∃ v2, qG 6 xs 1000 CL_law 18 [(2, 1005), (2, 0), (2, 63), (0, 0)] [] (qS v) = some (some (0, 1), qS v2) := by
  obtain ⟨r, v1, v2, h1, h2⟩ := h
  refine ⟨v2, ?_⟩
  simp (disch := omega) only [law_go, law_end, law_cast, b_law_27, b_law_30_v30 _ _ hk, b_law_1114, b_law_1118, b_law_1122, b_law_1125, h1, h2, w32_id, lc_eq, Int.lt_irrefl, Int.reduceSub, Int.reduceAdd, Int.zero_add, qB_some, psh_some, psh_none, and_true, true_and, and_false, false_and, and_self, or_true, true_or, or_false, false_or, not_true_eq_false, not_false_eq_true, ↓reduceIte, Int.reduceEq, Int.reduceLT, Int.reduceLE, Int.reduceToNat, Nat.reduceEqDiff, Nat.reduceAdd]
theorem law_31 (hk : pm_and (xs 0) 63 = 31) (h : pOK 6 xs v nX11_back nX12_back 0 []) : ∃ v2, qG 6 xs 1000 CL_law 18 [(2, 1005), (2, 0), (2, 63), (0, 0)] [] (qS v) = some (some (0, 1), qS v2) := by
  obtain ⟨r, v1, v2, h1, h2⟩ := h
  refine ⟨v2, ?_⟩
  simp (disch := omega) only [law_go, law_end, law_cast, b_law_27, b_law_30_v31 _ _ hk, b_law_1127, b_law_1131, b_law_1135, b_law_1138, h1, h2, w32_id, lc_eq, Int.lt_irrefl, Int.reduceSub, Int.reduceAdd, Int.zero_add, qB_some, psh_some, psh_none, and_true, true_and, and_false, false_and, and_self, or_true, true_or, or_false, false_or, not_true_eq_false, not_false_eq_true, ↓reduceIte, Int.reduceEq, Int.reduceLT, Int.reduceLE, Int.reduceToNat, Nat.reduceEqDiff, Nat.reduceAdd]
theorem law_32 (hk : pm_and (xs 0) 63 = 32) (h : pOK 6 xs v nX11_undo nX12_undo 0 []) : ∃ v2, qG 6 xs 1000 CL_law 18 [(2, 1005), (2, 0), (2, 63), (0, 0)] [] (qS v) = some (some (0, 1), qS v2) := by
  obtain ⟨r, v1, v2, h1, h2⟩ := h
  refine ⟨v2, ?_⟩
  simp (disch := omega) only [law_go, law_end, law_cast, b_law_27, b_law_30_v32 _ _ hk, b_law_1140, b_law_1144, b_law_1148, b_law_1151, h1, h2, w32_id, lc_eq, Int.lt_irrefl, Int.reduceSub, Int.reduceAdd, Int.zero_add, qB_some, psh_some, psh_none, and_true, true_and, and_false, false_and, and_self, or_true, true_or, or_false, false_or, not_true_eq_false, not_false_eq_true, ↓reduceIte, Int.reduceEq, Int.reduceLT, Int.reduceLE, Int.reduceToNat, Nat.reduceEqDiff, Nat.reduceAdd]
theorem law_33 (hk : pm_and (xs 0) 63 = 33) (h : pOK 6 xs v nX11_redo nX12_redo 0 []) : ∃ v2, qG 6 xs 1000 CL_law 18 [(2, 1005), (2, 0), (2, 63), (0, 0)] [] (qS v) = some (some (0, 1), qS v2) := by
  obtain ⟨r, v1, v2, h1, h2⟩ := h
  refine ⟨v2, ?_⟩
  simp (disch := omega) only [law_go, law_end, law_cast, b_law_27, b_law_30_v33 _ _ hk, b_law_1153, b_law_1157, b_law_1161, b_law_1164, h1, h2, w32_id, lc_eq, Int.lt_irrefl, Int.reduceSub, Int.reduceAdd, Int.zero_add, qB_some, psh_some, psh_none, and_true, true_and, and_false, false_and, and_self, or_true, true_or, or_false, false_or, not_true_eq_false, not_false_eq_true, ↓reduceIte, Int.reduceEq, Int.reduceLT, Int.reduceLE, Int.reduceToNat, Nat.reduceEqDiff, Nat.reduceAdd]
theorem law_34 (hk : pm_and (xs 0) 63 = 34) (h : pOK 6 xs v nX11_body nX12_body 0 [(0, xs 1)]) : ∃ v2, qG 6 xs 1000 CL_law 18 [(2, 1005), (2, 0), (2, 63), (0, 0)] [] (qS v) = some (some (0, 1), qS v2) := by
  obtain ⟨r, v1, v2, h1, h2⟩ := h
  refine ⟨v2, ?_⟩
  simp (disch := omega) only [law_go, law_end, law_cast, b_law_27, b_law_30_v34 _ _ hk, b_law_1166, b_law_1172, b_law_1175, b_law_1181, b_law_1184, b_law_1187, h1, h2, w32_id, lc_eq, Int.lt_irrefl, Int.reduceSub, Int.reduceAdd, Int.zero_add, qB_some, psh_some, psh_none, and_true, true_and, and_false, false_and, and_self, or_true, true_or, or_false, false_or, not_true_eq_false, not_false_eq_true, ↓reduceIte, Int.reduceEq, Int.reduceLT, Int.reduceLE, Int.reduceToNat, Nat.reduceEqDiff, Nat.reduceAdd]
theorem law_35 (hk : pm_and (xs 0) 63 = 35) (h : pOK 6 xs v nX11_act nX12_act 0 [(0, xs 1), (0, xs 2), (0, xs 3)]) : ∃ v2, qG 6 xs 1000 CL_law 18 [(2, 1005), (2, 0), (2, 63), (0, 0)] [] (qS v) = some (some (0, 1), qS v2) := by
  obtain ⟨r, v1, v2, h1, h2⟩ := h
  refine ⟨v2, ?_⟩
  simp (disch := omega) only [law_go, law_end, law_cast, b_law_27, b_law_30_v35 _ _ hk, b_law_1189, b_law_1195, b_law_1200, b_law_1205, b_law_1208, b_law_1214, b_law_1219, b_law_1224, b_law_1227, b_law_1230, h1, h2, w32_id, lc_eq, Int.lt_irrefl, Int.reduceSub, Int.reduceAdd, Int.zero_add, qB_some, psh_some, psh_none, and_true, true_and, and_false, false_and, and_self, or_true, true_or, or_false, false_or, not_true_eq_false, not_false_eq_true, ↓reduceIte, Int.reduceEq, Int.reduceLT, Int.reduceLE, Int.reduceToNat, Nat.reduceEqDiff, Nat.reduceAdd]
theorem law_36 (hk : pm_and (xs 0) 63 = 36) (h : pOK 6 xs v nX11_trace nX12_trace 0 [(0, xs 1)]) : ∃ v2, qG 6 xs 1000 CL_law 18 [(2, 1005), (2, 0), (2, 63), (0, 0)] [] (qS v) = some (some (0, 1), qS v2) := by
  obtain ⟨r, v1, v2, h1, h2⟩ := h
  refine ⟨v2, ?_⟩
  simp (disch := omega) only [law_go, law_end, law_cast, b_law_27, b_law_30_v36 _ _ hk, b_law_1232, b_law_1238, b_law_1241, b_law_1247, b_law_1250, b_law_1253, h1, h2, w32_id, lc_eq, Int.lt_irrefl, Int.reduceSub, Int.reduceAdd, Int.zero_add, qB_some, psh_some, psh_none, and_true, true_and, and_false, false_and, and_self, or_true, true_or, or_false, false_or, not_true_eq_false, not_false_eq_true, ↓reduceIte, Int.reduceEq, Int.reduceLT, Int.reduceLE, Int.reduceToNat, Nat.reduceEqDiff, Nat.reduceAdd]
theorem law_37 (hk : pm_and (xs 0) 63 = 37) (h : pOK 6 xs v nX11_keep nX12_keep 0 [(0, xs 1), (0, xs 2)]) : ∃ v2, qG 6 xs 1000 CL_law 18 [(2, 1005), (2, 0), (2, 63), (0, 0)] [] (qS v) = some (some (0, 1), qS v2) := by
  obtain ⟨r, v1, v2, h1, h2⟩ := h
  refine ⟨v2, ?_⟩
  simp (disch := omega) only [law_go, law_end, law_cast, b_law_27, b_law_30_v37 _ _ hk, b_law_1255, b_law_1261, b_law_1266, b_law_1269, b_law_1275, b_law_1280, b_law_1283, b_law_1286, h1, h2, w32_id, lc_eq, Int.lt_irrefl, Int.reduceSub, Int.reduceAdd, Int.zero_add, qB_some, psh_some, psh_none, and_true, true_and, and_false, false_and, and_self, or_true, true_or, or_false, false_or, not_true_eq_false, not_false_eq_true, ↓reduceIte, Int.reduceEq, Int.reduceLT, Int.reduceLE, Int.reduceToNat, Nat.reduceEqDiff, Nat.reduceAdd]
theorem law_38 (hk : pm_and (xs 0) 63 = 38) (h : pOK 6 xs v nX11_row nX12_row 0 [(0, xs 1), (0, xs 2), (0, xs 3)]) : ∃ v2, qG 6 xs 1000 CL_law 18 [(2, 1005), (2, 0), (2, 63), (0, 0)] [] (qS v) = some (some (0, 1), qS v2) := by
  obtain ⟨r, v1, v2, h1, h2⟩ := h
  refine ⟨v2, ?_⟩
  simp (disch := omega) only [law_go, law_end, law_cast, b_law_27, b_law_30_v38 _ _ hk, b_law_1288, b_law_1294, b_law_1299, b_law_1304, b_law_1307, b_law_1313, b_law_1318, b_law_1323, b_law_1326, b_law_1329, h1, h2, w32_id, lc_eq, Int.lt_irrefl, Int.reduceSub, Int.reduceAdd, Int.zero_add, qB_some, psh_some, psh_none, and_true, true_and, and_false, false_and, and_self, or_true, true_or, or_false, false_or, not_true_eq_false, not_false_eq_true, ↓reduceIte, Int.reduceEq, Int.reduceLT, Int.reduceLE, Int.reduceToNat, Nat.reduceEqDiff, Nat.reduceAdd]
theorem law_39 (hk : pm_and (xs 0) 63 = 39) (h : pOK 6 xs v nX11_put nX12_put 0 [(0, xs 1), (0, xs 2), (1, pm_lor (pm_lsh (xs 3) 32) (pm_lnd (xs 4) 4294967295))]) : ∃ v2, qG 6 xs 1000 CL_law 18 [(2, 1005), (2, 0), (2, 63), (0, 0)] [] (qS v) = some (some (0, 1), qS v2) := by
  obtain ⟨r, v1, v2, h1, h2⟩ := h
  refine ⟨v2, ?_⟩
  simp (disch := omega) only [law_go, law_end, law_cast, b_law_27, b_law_30_v39 _ _ hk, b_law_1331, b_law_1337, b_law_1342, b_law_1347, b_law_1356, b_law_1365, b_law_1371, b_law_1376, b_law_1381, b_law_1390, b_law_1399, b_law_1402, h1, h2, w32_id, lc_eq, Int.lt_irrefl, Int.reduceSub, Int.reduceAdd, Int.zero_add, qB_some, psh_some, psh_none, and_true, true_and, and_false, false_and, and_self, or_true, true_or, or_false, false_or, not_true_eq_false, not_false_eq_true, ↓reduceIte, Int.reduceEq, Int.reduceLT, Int.reduceLE, Int.reduceToNat, Nat.reduceEqDiff, Nat.reduceAdd]
theorem law_40 (hk : pm_and (xs 0) 63 = 40) (h : pOK 6 xs v nX11_element nX12_element 1 [(0, xs 1), (0, xs 2)]) : ∃ v2, qG 6 xs 1000 CL_law 18 [(2, 1005), (2, 0), (2, 63), (0, 0)] [] (qS v) = some (some (0, 1), qS v2) := by
  obtain ⟨r, v1, v2, h1, h2⟩ := h
  refine ⟨v2, ?_⟩
  simp (disch := omega) only [law_go, law_end, law_cast, b_law_27, b_law_30_v40 _ _ hk, b_law_1404, b_law_1410, b_law_1415, b_law_1418, b_law_1424, b_law_1429, b_law_1432, b_law_1436, h1, h2, w32_id, lc_eq, Int.lt_irrefl, Int.reduceSub, Int.reduceAdd, Int.zero_add, qB_some, psh_some, psh_none, and_true, true_and, and_false, false_and, and_self, or_true, true_or, or_false, false_or, not_true_eq_false, not_false_eq_true, ↓reduceIte, Int.reduceEq, Int.reduceLT, Int.reduceLE, Int.reduceToNat, Nat.reduceEqDiff, Nat.reduceAdd]
theorem law_41 (hk : pm_and (xs 0) 63 = 41) (h : pOK 6 xs v nX11_shift nX12_shift 0 [(0, xs 1), (0, xs 2), (0, xs 3), (0, xs 4), (0, xs 5)]) : ∃ v2, qG 6 xs 1000 CL_law 18 [(2, 1005), (2, 0), (2, 63), (0, 0)] [] (qS v) = some (some (0, 1), qS v2) := by
  obtain ⟨r, v1, v2, h1, h2⟩ := h
  refine ⟨v2, ?_⟩
  simp (disch := omega) only [law_go, law_end, law_cast, b_law_27, b_law_30_v41 _ _ hk, b_law_1438, b_law_1444, b_law_1449, b_law_1454, b_law_1459, b_law_1464, b_law_1467, b_law_1473, b_law_1478, b_law_1483, b_law_1488, b_law_1493, b_law_1496, b_law_1499, h1, h2, w32_id, lc_eq, Int.lt_irrefl, Int.reduceSub, Int.reduceAdd, Int.zero_add, qB_some, psh_some, psh_none, and_true, true_and, and_false, false_and, and_self, or_true, true_or, or_false, false_or, not_true_eq_false, not_false_eq_true, ↓reduceIte, Int.reduceEq, Int.reduceLT, Int.reduceLE, Int.reduceToNat, Nat.reduceEqDiff, Nat.reduceAdd]
theorem law_42 (hk : pm_and (xs 0) 63 = 42) (h : pOK 6 xs v nX11_taken nX12_taken 0 [(0, xs 1), (0, xs 2)]) : ∃ v2, qG 6 xs 1000 CL_law 18 [(2, 1005), (2, 0), (2, 63), (0, 0)] [] (qS v) = some (some (0, 1), qS v2) := by
  obtain ⟨r, v1, v2, h1, h2⟩ := h
  refine ⟨v2, ?_⟩
  simp (disch := omega) only [law_go, law_end, law_cast, b_law_27, b_law_30_v42 _ _ hk, b_law_1501, b_law_1507, b_law_1512, b_law_1515, b_law_1521, b_law_1526, b_law_1529, b_law_1532, h1, h2, w32_id, lc_eq, Int.lt_irrefl, Int.reduceSub, Int.reduceAdd, Int.zero_add, qB_some, psh_some, psh_none, and_true, true_and, and_false, false_and, and_self, or_true, true_or, or_false, false_or, not_true_eq_false, not_false_eq_true, ↓reduceIte, Int.reduceEq, Int.reduceLT, Int.reduceLE, Int.reduceToNat, Nat.reduceEqDiff, Nat.reduceAdd]
theorem law_43 (hk : pm_and (xs 0) 63 = 43) (h : pOK 6 xs v nX11_count nX12_count 0 [(0, xs 1)]) : ∃ v2, qG 6 xs 1000 CL_law 18 [(2, 1005), (2, 0), (2, 63), (0, 0)] [] (qS v) = some (some (0, 1), qS v2) := by
  obtain ⟨r, v1, v2, h1, h2⟩ := h
  refine ⟨v2, ?_⟩
  simp (disch := omega) only [law_go, law_end, law_cast, b_law_27, b_law_30_v43 _ _ hk, b_law_1534, b_law_1540, b_law_1543, b_law_1549, b_law_1552, b_law_1555, h1, h2, w32_id, lc_eq, Int.lt_irrefl, Int.reduceSub, Int.reduceAdd, Int.zero_add, qB_some, psh_some, psh_none, and_true, true_and, and_false, false_and, and_self, or_true, true_or, or_false, false_or, not_true_eq_false, not_false_eq_true, ↓reduceIte, Int.reduceEq, Int.reduceLT, Int.reduceLE, Int.reduceToNat, Nat.reduceEqDiff, Nat.reduceAdd]
theorem law_rest (hk : pm_and (xs 0) 63 < 0 ∨ 43 < pm_and (xs 0) 63) : qG 6 xs 1000 CL_law 18 [(2, 1005), (2, 0), (2, 63), (0, 0)] [] (qS v) = some (some (0, 1), qS v) := by
  simp (disch := omega) only [law_go, law_end, law_cast, b_law_27, b_law_30_o _ _ hk, w32_id, lc_eq, Int.reduceSub, Int.reduceAdd, Int.zero_add, qB_some, psh_some, psh_none, and_true, true_and, and_false, false_and, and_self, or_true, true_or, or_false, false_or, not_true_eq_false, not_false_eq_true, ↓reduceIte, Int.reduceEq, Int.reduceLT, Int.reduceLE, Int.reduceToNat, Nat.reduceEqDiff, Nat.reduceAdd]
theorem law_short {L : Nat} (hL : L < 6) : qG L xs 1000 CL_law 18 [(2, 1005), (2, 0), (2, 63), (0, 0)] [] (qS v) = some (some (0, 1), qS v) := by
  rw [b_law_18, w32_id (by omega) (by omega), if_pos (by omega), b_law_1563]
end LW
