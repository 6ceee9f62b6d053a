/-! bricks keeps the relation -/
section OS3
variable {L : Nat} {xs : Nat → Int} {d : Nat} {v u w : Nat → Nat → Int} {G G' : Nat → Int} {a b c t : Nat}
/-- what is owed to one -/
def owF (G : Nat → Int) (a : Nat) : Nat → Nat → Int → Int
  | 0, _, z => z
  | n + 1, j, z => owF G a n (j + 1) (w32 (z + w32 (G (6 * j + a) - G (6 * a + j))))
theorem owF_cg (h : ∀ i, i < 36 → G i = G' i) (ha : a < 6) : ∀ n j z, j + n = 6 → owF G a n j z = owF G' a n j z
  | 0, _, _, _ => rfl
  | n + 1, j, z, hj => by
    unfold owF
    rw [h _ (by omega), h _ (by omega)]
    exact owF_cg h ha n (j + 1) _ (by omega)
theorem lpr_owed (ha : a < 6) : ∀ (n j : Nat) (z : Int), j + n = 6 → qG L xs (d + 2) CX2_owed 4 [(2, 41), (0, (a : Int)), (0, z), (0, (j : Int))] [] (qS v) = some (some (0, owF (v 42) a n j z), qS v)
  | 0, j, z, hj => by
    rw [b_X2_owed_41_4, if_neg (by omega), b_X2_owed_41_32]
    rfl
  | n + 1, j, z, hj => by
    have h3 := lpr_owed ha n (j + 1) (w32 (z + w32 (v 42 (6 * j + a) - v 42 (6 * a + j)))) (by omega)
    rw [show ((j + 1 : Nat) : Int) = (j : Int) + 1 by omega] at h3
    rw [b_X2_owed_41_4, if_pos (by omega), b_X2_owed_41_10, cd_lent _ _ (by omega) (by omega), qB_some, psh_some, b_X2_owed_41_17, cd_lent _ _ (by omega) (by omega), qB_some, psh_some, b_X2_owed_41_23, w32_id (z := (j : Int) + 1) (by omega) (by omega), show ((j : Int) * 6 + (a : Int)).toNat = 6 * j + a by omega, show ((a : Int) * 6 + (j : Int)).toNat = 6 * a + j by omega]
    exact h3
theorem lpr_mowed (ha : a < 6) (x2 : Int) : ∀ (n j : Nat) (z : Int), j + n = 6 → qG L xs d CX12_bricks 19 [(2, 63), (0, (a : Int)), (0, x2), (0, z), (0, (j : Int))] [] (qS v) = some (some (0, owF (v 79) a n j z), qS v)
  | 0, j, z, hj => by
    rw [b_X12_bricks_19, if_neg (by omega), b_X12_bricks_60]
    rfl
  | n + 1, j, z, hj => by
    have h3 := lpr_mowed ha x2 n (j + 1) (w32 (z + w32 (v 79 (6 * j + a) - v 79 (6 * a + j)))) (by omega)
    rw [show ((j + 1 : Nat) : Int) = (j : Int) + 1 by omega] at h3
    rw [b_X12_bricks_19, if_pos (by omega), b_X12_bricks_26, w32_id (z := 6 * (j : Int)) (by omega) (by omega), w32_id (z := 6 * (j : Int) + a) (by omega) (by omega), if_pos (by omega), b_X12_bricks_39, w32_id (z := 6 * (a : Int)) (by omega) (by omega), w32_id (z := 6 * (a : Int) + j) (by omega) (by omega), if_pos (by omega), b_X12_bricks_51, w32_id (z := (j : Int) + 1) (by omega) (by omega), show (6 * (j : Int) + (a : Int)).toNat = 6 * j + a by omega, show (6 * (a : Int) + (j : Int)).toNat = 6 * a + j by omega]
    exact h3
theorem cpy_cel : pm_cpy v 42 43 0 0 36 = cel v 43 (fun i => if i < 36 then v 42 i else v 43 i) := by
  funext c k
  show (if c = 43 ∧ 0 ≤ k ∧ k < 0 + 36 then v 42 (0 + (k - 0)) else v c k) = if c = 43 then (if k < 36 then v 42 k else v 43 k) else v c k
  by_cases h : c = 43
  · rw [if_pos h]
    by_cases h2 : k < 36
    · rw [if_pos (by omega), if_pos h2, show 0 + (k - 0) = k by omega]
    · rw [if_neg (by omega), if_neg h2, h]
  · rw [if_neg (by omega), if_neg h]
theorem cp_cel : pm_cp v 79 80 0 (0 + 36) = cel v 80 (fun i => if i < 36 then v 79 i else v 80 i) := by
  funext c k
  show (if c = 80 ∧ 0 ≤ k ∧ k < 0 + 36 then v 79 k else v c k) = if c = 80 then (if k < 36 then v 79 k else v 80 k) else v c k
  by_cases h : c = 80
  · rw [if_pos h]
    by_cases h2 : k < 36
    · rw [if_pos (by omega), if_pos h2]
    · rw [if_neg (by omega), if_neg h2, h]
  · rw [if_neg (by omega), if_neg h]
theorem rR_cel (h : rlR v) (ht : t = 43 ∨ t = 80) (G : Nat → Int) : rlR (cel v t G) := by
  refine rlR_cg (fun c j q => cel_ne ?_) h
  unfold dsR dsW dsC dsT dsL dsD dsG dsB dsS dsN at q
  omega
theorem opr_bricks (h : rlR v) (y n : Int) (hy : y < 2147483648) : opR L xs v nX11_bricks nX12_bricks 0 [(0, y), (0, n)] := by
  have hD := h.2.2.2.2.1.1
  have ag : ∀ i, i < 36 → v 42 i = v 79 i := fun i hi => (hD.1 i hi).1.symm
  by_cases n0 : n = 0
  · subst n0
    by_cases g : 0 ≤ y ∧ y < 6
    · obtain ⟨a, rfl⟩ : ∃ a : Nat, y = (a : Int) := ⟨y.toNat, by omega⟩
      have l1 := lpr_owed (L := L) (xs := xs) (d := 996) (v := v) (show a < 6 by omega) 6 0 0 (by omega)
      have l2 := lpr_mowed (L := L) (xs := xs) (d := 999) (v := v) (show a < 6 by omega) 0 6 0 0 (by omega)
      rw [show ((0 : Nat) : Int) = 0 from rfl] at l1 l2
      refine opR_no (r := owF (v 42) a 6 0 0) h ?_ ?_
      · rw [e_X11_bricks, b_X11_bricks_0, if_pos rfl, b_X11_bricks_4, cd_hasOwner, qB_some, psh_some, b_X11_bricks_8, zb_0, if_pos g, b_X11_bricks_11, e_X2_owed_41, b_X2_owed_41_0, l1, qB_some, psh_some, b_X11_bricks_19, b_X11_bricks_24]
      · rw [e_X12_bricks, b_X12_bricks_0, if_pos rfl, b_X12_bricks_4, md_isOwner, qB_some, psh_some, b_X12_bricks_8, zb_0, if_pos g, b_X12_bricks_14, l2, owF_cg ag (show a < 6 by omega) 6 0 0 (by omega)]
    · refine opR_no (r := -2000000000) h ?_ ?_
      · rw [e_X11_bricks, b_X11_bricks_0, if_pos rfl, b_X11_bricks_4, cd_hasOwner, qB_some, psh_some, b_X11_bricks_8, zb_0, if_neg g, b_X11_bricks_22, b_X11_bricks_24]
      · rw [e_X12_bricks, b_X12_bricks_0, if_pos rfl, b_X12_bricks_4, md_isOwner, qB_some, psh_some, b_X12_bricks_8, zb_0, if_neg g, b_X12_bricks_11]
  · have cb : qE L xs 1000 nX11_bricks [(2, 0), (0, y), (0, n)] (qS v) = if 0 ≤ y ∧ y / 10 < 6 ∧ y % 10 < 6 ∧ y / 10 ≠ y % 10 then (if n < 1 then qG L xs 999 CX11_bricks 42 [(2, 0), (0, y), (0, n)] [] (qS v) else if 2 < n then qG L xs 999 CX11_bricks 42 [(2, 0), (0, y), (0, n)] [] (qS v) else qG L xs 999 CX11_bricks 45 [(2, 0), (0, y), (0, n)] [] (qS v)) else qG L xs 999 CX11_bricks 42 [(2, 0), (0, y), (0, n)] [] (qS v) := by
      rw [e_X11_bricks, b_X11_bricks_0, if_neg n0, b_X11_bricks_25, cd_areOwners y hy, qB_some, psh_some, b_X11_bricks_29, zb_0, b_X11_bricks_32, b_X11_bricks_37]
    have mb : ∀ w : Nat → Nat → Int, qE L xs 1000 nX12_bricks [(2, 63), (0, y), (0, n)] (qS w) = if 1 ≤ n ∧ n ≤ 2 then (if 0 ≤ y ∧ y / 10 < 6 ∧ y % 10 < 6 ∧ y / 10 ≠ y % 10 then qG L xs 999 CX12_bricks 84 [(2, 63), (0, y), (0, n), (9, 0), (9, 0)] [] (qS w) else qG L xs 999 CX12_bricks 81 [(2, 63), (0, y), (0, n), (9, 0), (9, 0)] [] (qS w)) else qG L xs 999 CX12_bricks 81 [(2, 63), (0, y), (0, n), (9, 0), (9, 0)] [] (qS w) := fun w => by
      rw [e_X12_bricks, b_X12_bricks_0, if_neg n0, b_X12_bricks_62, c_within, qB_some, psh_some, b_X12_bricks_71, zb_0, b_X12_bricks_74, md_areOwners y hy, qB_some, psh_some, b_X12_bricks_78, zb_0]
    by_cases g : 0 ≤ y ∧ y / 10 < 6 ∧ y % 10 < 6 ∧ y / 10 ≠ y % 10
    · by_cases g2 : 1 ≤ n ∧ n ≤ 2
      · obtain ⟨a, ha⟩ : ∃ a : Nat, y / 10 = (a : Int) := ⟨(y / 10).toNat, by omega⟩
        obtain ⟨b, hb⟩ : ∃ b : Nat, y % 10 = (b : Int) := ⟨(y % 10).toNat, by omega⟩
        have td : y.tdiv 10 = (a : Int) := (td_pos 10 g.1).trans ha
        have tm : y.tmod 10 = (b : Int) := (tm_pos 10 g.1).trans hb
        have mk : w32 (w32 (6 * w32 (y.tdiv 10)) + y.tmod 10) = ((6 * a + b : Nat) : Int) := by
          rw [td, tm, w32_id (z := (a : Int)) (by omega) (by omega), w32_id (z := 6 * (a : Int)) (by omega) (by omega), w32_id (by omega) (by omega)]
          omega
        by_cases n1 : n = 1
        · refine opR_no (r := v 42 (6 * a + b)) h ?_ ?_
          · rw [cb, if_pos g, if_neg (by omega), if_neg (by omega), b_X11_bricks_45, if_pos n1, b_X11_bricks_50, td, tm, w32_id (by omega) (by omega), cd_lent _ _ (by omega) (by omega), qB_some, psh_some, b_X11_bricks_65, b_X11_bricks_83, show ((a : Int) * 6 + (b : Int)).toNat = 6 * a + b by omega]
          · rw [mb, if_pos g2, if_pos g, b_X12_bricks_84, if_pos n1, mk, b_X12_bricks_102, if_pos (by omega), Int.toNat_natCast, b_X12_bricks_108, ag _ (by omega)]
        · have hG : ∀ s : Nat → Int, (∀ i, i < 36 → s i = v 42 i) → Gd s := fun s hs => ⟨fun i hi => by rw [hs i hi]; exact (hD.1 i hi).2, fun x hx => by rw [hs _ (by omega)]; exact hD.2 x hx⟩
          obtain ⟨x3, x4, e1⟩ := lpr_clear (L := L) (xs := xs) (d := 996) (v := v) (a : Int) (b : Int) 36 0 (fun i => if i < 36 then v 42 i else v 43 i) (by omega) (hG _ (fun i hi => if_pos hi))
          rw [show ((0 : Nat) : Int) = 0 from rfl, ← cpy_cel] at e1
          obtain ⟨w1, hw1⟩ : ∃ w1, w1 = cel v 43 (itG 36 (fun i => if i < 36 then v 42 i else v 43 i)) := ⟨_, rfl⟩
          have hR1 : rlR w1 := by rw [hw1]; exact rR_cel h (Or.inl rfl) _
          have e2 := mr_clear (L := L) (xs := xs) (d := 998) (v := w1) y n ((6 * a + b : Nat) : Int) 36 (fun i => if i < 36 then w1 79 i else w1 80 i) (pcG_n 36) (hG _ (fun i hi => by rw [hw1]; exact (if_pos hi).trans ((cel_ne (by omega)).trans (ag i hi).symm)))
          refine ⟨itG 36 (fun i => if i < 36 then v 42 i else v 43 i) (6 * a + b), w1, cel w1 80 (itG 36 (fun i => if i < 36 then w1 79 i else w1 80 i)), ?_, ?_, rR_cel hR1 (Or.inr rfl) _⟩
          · rw [cb, if_pos g, if_neg (by omega), if_neg (by omega), b_X11_bricks_45, if_neg n1, b_X11_bricks_68, td, tm, w32_id (by omega) (by omega)]
            have e3 : qE L xs 999 nX2_lentWhenCleared [(2, 41), (0, (a : Int)), (0, (b : Int))] (qS v) = some (some (0, itG 36 (fun i => if i < 36 then v 42 i else v 43 i) (6 * a + b)), qS w1) := by
              rw [e_X2_lentWhenCleared_41, b_X2_lentWhenCleared_41_0]
              refine (qG_cpy (s := 42) (t := 43) (e := 0) (ns := 36) (nt := 36) rfl rfl rfl rfl (Or.inl rfl) (by omega) (by omega) (by omega) (by omega) (by omega) rfl (nr_of rfl) (nr_of rfl)).trans ?_
              show qG L xs 998 CX2_lentWhenCleared 18 _ _ (qS (pm_cpy v 42 43 0 0 36)) = _
              rw [b_X2_lentWhenCleared_41_18, e1, b_X2_lentWhenCleared_41_48, cd_hasOwner, qB_some, psh_some, b_X2_lentWhenCleared_41_52, zb_0, if_pos (by omega), b_X2_lentWhenCleared_41_55, cd_hasOwner, qB_some, psh_some, b_X2_lentWhenCleared_41_59, zb_0, if_pos (by omega), b_X2_lentWhenCleared_41_62, w32_id (z := (a : Int) * 6) (by omega) (by omega), w32_id (by omega) (by omega), if_pos (by omega), cel_eq, b_X2_lentWhenCleared_41_73, b_X2_lentWhenCleared_41_77, show ((a : Int) * 6 + (b : Int)).toNat = 6 * a + b by omega, ← hw1]
            rw [e3, qB_some, psh_some, b_X11_bricks_83]
          · have l := lp_left (L := L) (xs := xs) (d := 999) y n ((6 * a + b : Nat) : Int) 36 0 w1 (by omega)
            rw [show ((0 : Nat) : Int) = 0 from rfl, cp_cel] at l
            rw [mb, if_pos g2, if_pos g, b_X12_bricks_84, if_neg n1, mk, b_X12_bricks_109, l, b_X12_bricks_139, e2, b_X12_bricks_156, if_pos (by omega), Int.toNat_natCast, cel_eq, b_X12_bricks_162]
            rw [itG_cg 36 (fun i => if i < 36 then w1 79 i else w1 80 i) (fun i => if i < 36 then v 42 i else v 43 i) (fun i hi => by rw [hw1]; exact (if_pos hi).trans ((cel_ne (by omega)).trans ((ag i hi).symm.trans (if_pos hi).symm))) (6 * a + b) (by omega)]
      · refine opR_no (r := -2000000000) h ?_ ?_
        · rw [cb, if_pos g]
          by_cases g3 : n < 1
          · rw [if_pos g3, b_X11_bricks_42]
          · rw [if_neg g3, if_pos (by omega), b_X11_bricks_42]
        · rw [mb, if_neg g2, b_X12_bricks_81]
    · refine opR_no (r := -2000000000) h ?_ ?_
      · rw [cb, if_neg g, b_X11_bricks_42]
      · rw [mb, if_neg g, b_X12_bricks_81, ite_self]
end OS3
