/-! A NUMBER OF THE WALL that changes: change() and becomes(), side by side; mend, undo, redo -/
section OG3
variable {L : Nat} {xs : Nat → Int} {d : Nat} {u v w : Nat → Nat → Int} {k n : Nat}
/-- the program's cells of u, the reference's of v -/
def mix (u v : Nat → Nat → Int) : Nat → Nat → Int := fun c k => if c < 63 then u c k else v c k
theorem mx_u {c k : Nat} (h : c < 63) : mix u v c k = u c k := if_pos h
theorem mx_v {c k : Nat} (h : 63 ≤ c) : mix u v c k = v c k := if_neg (by omega)
theorem mx_out (h : ∀ c k, 63 ≤ c → u c k = v c k) : mix v u = v := by
  funext c k
  unfold mix
  by_cases g : c < 63
  · rw [if_pos g]
  · rw [if_neg g]
    exact h c k (by omega)
theorem mx_in (h : ∀ c k, c < 63 → w c k = u c k) : mix u w = w := by
  funext c k
  unfold mix
  by_cases g : c < 63
  · rw [if_pos g]
    exact (h c k g).symm
  · rw [if_neg g]
theorem cr_allows (hk : k < 12) (z : Int) : qE L xs (d + 1) nX9_allows [(0, (k : Int)), (0, z)] (qS v) = some (some (0, zb (lo k ≤ z ∧ z ≤ hi k)), qS v) := by
  rcases k12 hk with rfl | rfl | rfl | rfl | rfl | rfl | rfl | rfl | rfl | rfl | rfl | rfl
  · exact c_allows_0 z
  · exact c_allows_1 z
  · exact c_allows_2 z
  · exact c_allows_3 z
  · exact c_allows_4 z
  · exact c_allows_5 z
  · exact c_allows_6 z
  · exact c_allows_7 z
  · exact c_allows_8 z
  · exact c_allows_9 z
  · exact c_allows_10 z
  · exact c_allows_11 z
theorem mr_may (hk : k < 12) (z : Int) : qE L xs (d + 2) nX12_mayBecome [(0, (k : Int)), (1, z)] (qS v) = some (some (0, zb (lo k ≤ z ∧ z ≤ hi k)), qS v) := by
  rcases k12 hk with rfl | rfl | rfl | rfl | rfl | rfl | rfl | rfl | rfl | rfl | rfl | rfl
  · exact m_may_0 z
  · exact m_may_1 z
  · exact m_may_2 z
  · exact m_may_3 z
  · exact m_may_4 z
  · exact m_may_5 z
  · exact m_may_6 z
  · exact m_may_7 z
  · exact m_may_8 z
  · exact m_may_9 z
  · exact m_may_10 z
  · exact m_may_11 z
/-- the first change forgotten -/
def fgC (u : Nat → Nat → Int) : Nat → Nat → Int := pm_up (pm_cpy (pm_cpy (pm_cpy (pm_cpy u 19 19 1 0 39) 20 20 1 0 39) 21 21 1 0 39) 22 22 1 0 39) 18 4 39
theorem fgC_in {c i : Nat} (hc : 19 ≤ c ∧ c ≤ 22) (hi : i < 39) : fgC u c i = u c (i + 1) := by
  unfold fgC
  rw [up_ne (by omega)]
  have : c = 19 ∨ c = 20 ∨ c = 21 ∨ c = 22 := by omega
  rcases this with rfl | rfl | rfl | rfl
  · rw [pm_cpy_ne _ (by omega), pm_cpy_ne _ (by omega), pm_cpy_ne _ (by omega)]
    exact (if_pos (by omega)).trans (by rw [show 1 + (i - 0) = i + 1 by omega])
  · rw [pm_cpy_ne _ (by omega), pm_cpy_ne _ (by omega)]
    refine (if_pos (by omega)).trans ?_
    rw [pm_cpy_ne _ (by omega), show 1 + (i - 0) = i + 1 by omega]
  · rw [pm_cpy_ne _ (by omega)]
    refine (if_pos (by omega)).trans ?_
    rw [pm_cpy_ne _ (by omega), pm_cpy_ne _ (by omega), show 1 + (i - 0) = i + 1 by omega]
  · refine (if_pos (by omega)).trans ?_
    rw [pm_cpy_ne _ (by omega), pm_cpy_ne _ (by omega), pm_cpy_ne _ (by omega), show 1 + (i - 0) = i + 1 by omega]
theorem fgC_ne {c i : Nat} (hc : ¬ (19 ≤ c ∧ c ≤ 22)) (h18 : ¬ (c = 18 ∧ i = 4)) : fgC u c i = u c i := by
  unfold fgC
  rw [up_ne (by omega), pm_cpy_ne _ (by omega), pm_cpy_ne _ (by omega), pm_cpy_ne _ (by omega), pm_cpy_ne _ (by omega)]
theorem fgC_4 : fgC u 18 4 = 39 := up_eq _ _ _ _
theorem cr_forget : qE L xs (d + 1) nX1_forgetFirst [(2, 18)] (qS u) = some (none, qS (fgC u)) := by
  rw [e_X1_forgetFirst, b_X1_forgetFirst_0]
  refine (qG_cpy (s := 19) (t := 19) (e := 0) (ns := 40) (nt := 40) rfl rfl rfl rfl (Or.inl rfl) (by omega) (by omega) (by omega) (by omega) (by omega) rfl (nr_of rfl) (nr_of rfl)).trans ?_
  rw [b_X1_forgetFirst_15]
  refine (qG_cpy (s := 20) (t := 20) (e := 0) (ns := 40) (nt := 40) rfl rfl rfl rfl (Or.inl rfl) (by omega) (by omega) (by omega) (by omega) (by omega) rfl (nr_of rfl) (nr_of rfl)).trans ?_
  rw [b_X1_forgetFirst_30]
  refine (qG_cpy (s := 21) (t := 21) (e := 0) (ns := 40) (nt := 40) rfl rfl rfl rfl (Or.inl rfl) (by omega) (by omega) (by omega) (by omega) (by omega) rfl (nr_of rfl) (nr_of rfl)).trans ?_
  rw [b_X1_forgetFirst_45]
  refine (qG_cpy (s := 22) (t := 22) (e := 0) (ns := 40) (nt := 40) rfl rfl rfl rfl (Or.inl rfl) (by omega) (by omega) (by omega) (by omega) (by omega) rfl (nr_of rfl) (nr_of rfl)).trans ?_
  rw [b_X1_forgetFirst_60, b_X1_forgetFirst_66]
  rfl
def ntC (u : Nat → Nat → Int) (D : Nat) (a b x y : Int) : Nat → Nat → Int := pm_up (pm_up (pm_up (pm_up (pm_up (pm_up u 19 D a) 20 D b) 21 D x) 22 D y) 18 4 ((D : Int) + 1)) 18 5 ((D : Int) + 1)
theorem cr_note_end {D : Nat} (hD : u 18 4 = (D : Int)) (h40 : D < 40) (a b x y : Int) : qG L xs d CX1_note 13 [(2, 18), (0, a), (0, b), (0, x), (0, y)] [] (qS u) = some (none, qS (ntC u D a b x y)) := by
  rw [b_X1_note_13, hD, if_pos (by omega), Int.toNat_natCast, b_X1_note_23, up_ne (by omega), hD, if_pos (by omega), Int.toNat_natCast, b_X1_note_33, up_ne (by omega), up_ne (by omega), hD, if_pos (by omega), Int.toNat_natCast, b_X1_note_43, up_ne (by omega), up_ne (by omega), up_ne (by omega), hD, if_pos (by omega), Int.toNat_natCast, b_X1_note_54, up_ne (by omega), up_ne (by omega), up_ne (by omega), up_ne (by omega), hD, w32_id (by omega) (by omega), b_X1_note_64, up_eq, b_X1_note_72]
  rfl
/-- what note() begins with -/
def ntB (u : Nat → Nat → Int) : Nat → Nat → Int := if u 18 4 < 40 then u else fgC u
theorem ntB_4 (h : 0 ≤ u 18 4 ∧ u 18 4 ≤ 40) : ∃ D : Nat, D < 40 ∧ ntB u 18 4 = (D : Int) ∧ ((u 18 4 = (D : Int) ∧ ntB u = u) ∨ (D = 39 ∧ u 18 4 = 40 ∧ ntB u = fgC u)) := by
  unfold ntB
  by_cases g : u 18 4 < 40
  · rw [if_pos g]
    exact ⟨(u 18 4).toNat, by omega, by omega, Or.inl ⟨by omega, rfl⟩⟩
  · rw [if_neg g]
    exact ⟨39, by omega, fgC_4, Or.inr ⟨rfl, by omega, rfl⟩⟩
theorem cr_note (h : 0 ≤ u 18 4 ∧ u 18 4 ≤ 40) (a b x y : Int) : qE L xs (d + 2) nX1_note [(2, 18), (0, a), (0, b), (0, x), (0, y)] (qS u) = some (none, qS (ntC (ntB u) (ntB u 18 4).toNat a b x y)) := by
  obtain ⟨D, h1, h2, h3⟩ := ntB_4 h
  rw [h2, Int.toNat_natCast]
  rcases h3 with ⟨q1, q2⟩ | ⟨q1, q2, q3⟩
  · rw [q2, e_X1_note, b_X1_note_0, if_pos (by omega), cr_note_end q1 h1]
  · rw [q3, e_X1_note, b_X1_note_0, if_neg (by omega), b_X1_note_9, cr_forget, qB_some, psh_none, cr_note_end (by rw [fgC_4]; omega) h1]
/-- what change() makes -/
def chC (u : Nat → Nat → Int) (k n : Nat) (z : Int) : Nat → Nat → Int := if u (3 + k) n = z then u else pm_up (ntC (ntB u) (ntB u 18 4).toNat k n (u (3 + k) n) z) (3 + k) n z
theorem chC_ne (z : Int) {c j : Nat} (h1 : ¬ (c = 3 + k ∧ j = n)) (h2 : ¬ (c = 18 ∧ (j = 4 ∨ j = 5))) (h3 : ¬ (19 ≤ c ∧ c ≤ 22)) : chC u k n z c j = u c j := by
  unfold chC
  by_cases g : u (3 + k) n = z
  · rw [if_pos g]
  · rw [if_neg g, up_ne (by omega)]
    unfold ntC
    rw [up_ne (by omega), up_ne (by omega), up_ne (by omega), up_ne (by omega), up_ne (by omega), up_ne (by omega)]
    unfold ntB
    by_cases q : u 18 4 < 40
    · rw [if_pos q]
    · rw [if_neg q, fgC_ne (by omega) (by omega)]
theorem ntC_ne {c j D : Nat} {a b x y : Int} (h2 : ¬ (c = 18 ∧ (j = 4 ∨ j = 5))) (h3 : ¬ (19 ≤ c ∧ c ≤ 22)) : ntC (ntB u) D a b x y c j = u c j := by
  unfold ntC
  rw [up_ne (by omega), up_ne (by omega), up_ne (by omega), up_ne (by omega), up_ne (by omega), up_ne (by omega)]
  unfold ntB
  by_cases q : u 18 4 < 40
  · rw [if_pos q]
  · rw [if_neg q, fgC_ne (by omega) (by omega)]
theorem cr_change (hk : k < 12) (hn : n < 30) (hl : (n : Int) < hmN u k) (h : 0 ≤ u 18 4 ∧ u 18 4 ≤ 40) (z : Int) : qE L xs (d + 5) nX11_change [(2, 0), (0, (k : Int)), (0, (n : Int)), (0, z)] (qS u) = some (none, qS (chC u k n z)) := by
  have hl2 : (n : Int) < hm u (k : Int) := by rw [hm_N hk]; exact hl
  rw [e_X11_change, b_X11_change_0, c_value_in (k : Int) (n : Int) (by omega) (by omega) (by omega) hl2 (by omega), qB_some, psh_some, b_X11_change_9, Int.toNat_natCast, Int.toNat_natCast]
  unfold chC
  by_cases g : u (3 + k) n = z
  · rw [if_pos g, if_pos g, b_X11_change_39]
  · rw [if_neg g, if_neg g, b_X11_change_17, cr_note h, qB_some, psh_none, b_X11_change_29, c_set_in (k : Int) (n : Int) z (by omega) (by omega) (by omega) ?_ (by omega), qB_some, psh_none, b_X11_change_39, Int.toNat_natCast, Int.toNat_natCast]
    rw [hm_N hk]
    unfold hmN at hl ⊢
    rw [ntC_ne (by omega) (by omega), ntC_ne (by omega) (by omega)]
    exact hl
end OG3
