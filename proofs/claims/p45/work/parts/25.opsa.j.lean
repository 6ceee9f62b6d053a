/-! JOINED: 25.opsa, 26.opsb, 27.opsc, 28.opsd, 29.opse, 30.opsf, 31.pace, 32.tax, 33.frost -/
section
/-! THE FIRST STATE's calls, the easy ones: both answer alike -/
section OA
variable {L : Nat} {xs : Nat → Int} {d : Nat} {v : Nat → Nat → Int} {a b c x y z : Int}
theorem cs_has (a : Int) : qE L xs (d + 1) nX8_has [(0, a)] (qS v) = some (some (0, zb (0 ≤ a ∧ a < 6)), qS v) := by
  simp only [e_X8_has, b_X8_has_0, b_X8_has_4, b_X8_has_10, b_X8_has_14, b_X8_has_15, qB_some, psh_some, psh_none, and_true, true_and, and_false, false_and, and_self, or_true, true_or, or_false, false_or, not_true_eq_false, not_false_eq_true, ↓reduceIte, Int.reduceEq, Int.reduceLT, Int.reduceLE, Int.reduceToNat, Nat.reduceEqDiff, Nat.reduceAdd]
  by_cases h1 : a < 0
  · rw [if_pos h1, zb_f (by omega)]
  · by_cases h2 : a < 6
    · rw [if_neg h1, if_pos h2, zb_t (by omega)]
    · rw [if_neg h1, if_neg h2, zb_f (by omega)]
theorem ms_isShelf (a : Int) : qE L xs (d + 2) nX12_isShelf [(0, a)] (qS v) = some (some (0, zb (0 ≤ a ∧ a < 6)), qS v) := by
  simp only [e_X12_isShelf, b_X12_isShelf_0, b_X12_isShelf_9, c_within, zb_r, qB_some, psh_some, psh_none, and_true, true_and, and_false, false_and, and_self, or_true, true_or, or_false, false_or, not_true_eq_false, not_false_eq_true, ↓reduceIte, Int.reduceEq, Int.reduceLT, Int.reduceLE, Int.reduceToNat, Nat.reduceEqDiff, Nat.reduceAdd]
  exact ret_zb (by omega)
end OA
end
section
/-! THE FIRST STATE's calls: more -/
section OB
variable {L : Nat} {xs : Nat → Int} {d : Nat} {v : Nat → Nat → Int} {a b c x y z : Int}
theorem td_pos {x : Int} (k : Int) (h : 0 ≤ x) : Int.tdiv x k = x / k := Int.tdiv_eq_ediv_of_nonneg h
theorem tm_pos {x : Int} (k : Int) (h : 0 ≤ x) : Int.tmod x k = x % k := Int.tmod_eq_emod_of_nonneg h
theorem cb_hasKind (a : Int) : qE L xs (d + 1) nX0_hasKind [(0, a)] (qS v) = some (some (0, zb (0 ≤ a ∧ a < 8)), qS v) := by
  simp only [e_X0_hasKind, b_X0_hasKind_0, b_X0_hasKind_4, b_X0_hasKind_12, b_X0_hasKind_16, b_X0_hasKind_17, qB_some, psh_some, psh_none, and_true, true_and, and_false, false_and, and_self, or_true, true_or, or_false, false_or, not_true_eq_false, not_false_eq_true, ↓reduceIte, Int.reduceEq, Int.reduceLT, Int.reduceLE, Int.reduceToNat, Nat.reduceEqDiff, Nat.reduceAdd]
  by_cases h1 : a < 0
  · rw [if_pos h1, zb_f (by omega)]
  · by_cases h2 : a < 8
    · rw [if_neg h1, if_pos h2, zb_t (by omega)]
    · rw [if_neg h1, if_neg h2, zb_f (by omega)]
theorem cb_has (a : Int) (h1 : v 49 2 ≤ 50) : qE L xs (d + 1) nX0_has [(2, 49), (0, a)] (qS v) = some (some (0, zb (0 ≤ a ∧ a < v 49 2)), qS v) := by
  simp only [e_X0_has, b_X0_has_0, b_X0_has_4, b_X0_has_12, b_X0_has_18, b_X0_has_22, b_X0_has_23, qB_some, psh_some, psh_none, and_true, true_and, and_false, false_and, and_self, or_true, true_or, or_false, false_or, not_true_eq_false, not_false_eq_true, ↓reduceIte, Int.reduceEq, Int.reduceLT, Int.reduceLE, Int.reduceToNat, Nat.reduceEqDiff, Nat.reduceAdd]
  by_cases h2 : a < 0
  · rw [if_pos h2, zb_f (by omega)]
  · by_cases h3 : a < v 49 2
    · rw [if_neg h2, if_pos h3, if_pos (by omega), zb_t (by omega)]
    · rw [if_neg h2, if_neg h3, zb_f (by omega)]
theorem mb_isBody (a : Int) (h0 : 0 ≤ v 63 39) (h1 : v 63 39 ≤ 50) : qE L xs (d + 2) nX12_isBody [(2, 63), (0, a)] (qS v) = some (some (0, zb (0 ≤ a ∧ a < v 63 39)), qS v) := by
  simp (disch := omega) only [e_X12_isBody, b_X12_isBody_0, b_X12_isBody_13, c_within, w32_id, zb_r, qB_some, psh_some, psh_none, and_true, true_and, and_false, false_and, and_self, or_true, true_or, or_false, false_or, not_true_eq_false, not_false_eq_true, ↓reduceIte, Int.reduceEq, Int.reduceLT, Int.reduceLE, Int.reduceToNat, Nat.reduceEqDiff, Nat.reduceAdd]
  exact ret_zb (by omega)
end OB
end
section
/-! THE FIRST STATE's calls: shelves filled, owners, images -/
section OC
variable {L : Nat} {xs : Nat → Int} {d : Nat} {v : Nat → Nat → Int} {C : pm_C} {pc : Nat} {ls st : List pm_V} {a b c x y z : Int}
theorem qG_cpy {i : Nat} {x : pm_A} {s t e ns nt : Nat} {sp tp n : Int} (hf : pm_fetch C pc = some (.invokestatic i, x)) (hx : x.2.2.1 = 1) (hs : pm_get SH s = some (1, e, ns)) (ht : pm_get SH t = some (1, e, nt)) (he : e = 0 ∨ e = 1) (h1 : 0 ≤ sp) (h2 : 0 ≤ tp) (h3 : 0 ≤ n) (h4 : sp + n ≤ (ns : Int)) (h5 : tp + n ≤ (nt : Int)) (hst : pm_fit 4 st = true) (rs : ∀ k, refAt s k = none) (rt : ∀ k, refAt t k = none) :
    qG L xs d C pc ls ((0, n) :: (0, tp) :: (2, .ofNat t) :: (0, sp) :: (2, .ofNat s) :: st) (qS v) = qG L xs d C (pc + 3) ls st (qS (pm_cpy v s t sp.toNat tp.toNat n.toNat)) := by
  refine qG_1n hf ?_
  obtain ⟨x1, x2, x3, x4⟩ := x
  subst hx
  show (match pm_get (qS v).1 s, pm_get (qS v).1 t, pm_fit 4 st with
    | some (1, e, ns), some (1, e', nd), true => if (e = 0 ∨ e = 1) ∧ e' = e then (if 0 ≤ sp ∧ 0 ≤ tp ∧ 0 ≤ n ∧ sp + n ≤ (ns : Int) ∧ tp + n ≤ (nd : Int) then pm_nx (pc + 3) ls st ((qS v).1, pm_cpy (qS v).2 s t sp.toNat tp.toNat n.toNat) else none) else none
    | _, _, _ => none) = _
  rw [show pm_get (qS v).1 s = some (1, e, ns) from hs, show pm_get (qS v).1 t = some (1, e, nt) from ht, hst]
  refine (if_pos ⟨he, rfl⟩).trans ((if_pos ⟨h1, h2, h3, h4, h5⟩).trans ?_)
  show pm_nx (pc + 3) ls st (SH, pm_cpy (mm v) s t sp.toNat tp.toNat n.toNat) = _
  rw [mm_cpy rs rt]
  rfl
theorem nr_of {c : Nat} (h : pm_get pm_refs c = some []) (k : Nat) : refAt c k = none := by
  unfold refAt
  rw [h]
  rfl
theorem sh_ref {k : Int} (h0 : 0 ≤ k) (hn : k < 6) : refAt 56 k.toNat = some (.ofNat (57 + k.toNat)) := (by decide : ∀ j, j < 6 → refAt 56 j = some (.ofNat (57 + j))) k.toNat (by omega)
theorem sh_get {k : Int} (h0 : 0 ≤ k) (hn : k < 6) : pm_get SH (57 + k.toNat) = some (1, 1, 60) := (by decide : ∀ j, j < 6 → pm_get SH (57 + j) = some (1, 1, 60)) k.toNat (by omega)
theorem sh_nr {k : Int} (h0 : 0 ≤ k) (hn : k < 6) (i : Nat) : refAt (57 + k.toNat) i = none := nr_of ((by decide : ∀ j, j < 6 → pm_get pm_refs (57 + j) = some []) k.toNat (by omega)) i
theorem mm_fl {c lo hi : Nat} {z : Int} (h : ∀ k, refAt c k = none) : pm_fl (mm v) c lo hi z = mm (pm_fl v c lo hi z) := by
  funext a i
  show (if a = c ∧ lo ≤ i ∧ i < hi then z else mm v a i) = (match refAt a i with
    | some z => z
    | none => if a = c ∧ lo ≤ i ∧ i < hi then z else v a i)
  by_cases hc : a = c ∧ lo ≤ i ∧ i < hi
  · rw [if_pos hc, if_pos hc, hc.1, h]
  · rw [if_neg hc, if_neg hc]
    rfl
/-- fills, over the steady heap -/
theorem q_fill {c n : Nat} {z : Int} (hc : c < 1000) (hs : pm_get SH c = some (1, 0, n)) (hn : n < 2147483648) (hr : ∀ k, refAt c k = none) : qE L xs (d + 1) nJ7_fill_53178 [(2, .ofNat c), (0, z)] (qS v) = some (none, qS (pm_fl v c 0 n z)) := by
  refine (fi_all hc hs hn).trans ?_
  rw [mm_fl hr]
  rfl
theorem q_fillL {c n : Nat} {z : Int} (hc : c < 1000) (hs : pm_get SH c = some (1, 1, n)) (hn : n < 2147483648) (hr : ∀ k, refAt c k = none) : qE L xs (d + 1) nJ7_fill_d0a16 [(2, .ofNat c), (1, z)] (qS v) = some (none, qS (pm_fl v c 0 n z)) := by
  refine (fj_all hc hs hn).trans ?_
  rw [mm_fl hr]
  rfl
theorem b_X8_holdRow_35 (x1 x2 x3 : Int) (h0 : 0 ≤ x1) (h1 : x1 < 6) : qG L xs (d + 1) CX8_holdRow 35 [(2, 52), (0, x1), (0, x2), (0, x3)] [(0, x1), (2, 56)] (qS v) = some (none, qS (pm_fl v (57 + x1.toNat) 0 60 0)) := by
  refine (qG_aald (c := 56) (e := 5) (n := 6) (t := 57 + x1.toNat) rfl rfl (Or.inr rfl) h0 h1 (sh_ref h0 h1)).trans ?_
  rw [b_X8_holdRow_36, q_fillL (by omega) (sh_get h0 h1) (by decide) (sh_nr h0 h1), qB_some, psh_none, b_X8_holdRow_40]
theorem c_holdRow (x1 x2 x3 : Int) (h0 : 0 ≤ x1) (h1 : x1 < 6) : qE L xs (d + 2) nX8_holdRow [(2, 52), (0, x1), (0, x2), (0, x3)] (qS v) = some (none, qS (pm_fl (pm_up (pm_up v 53 x1.toNat x2) 55 x1.toNat (pm_max 0 (pm_min x3 60))) (57 + x1.toNat) 0 60 0)) := by
  have h2 : 0 ≤ x1 ∧ x1 < 6 := ⟨h0, h1⟩
  rw [e_X8_holdRow, b_X8_holdRow_0, cs_has, qB_some, psh_some, b_X8_holdRow_4, zb_0, if_pos h2, b_X8_holdRow_7, if_pos h2, b_X8_holdRow_14, if_pos h2, b_X8_holdRow_30, b_X8_holdRow_35 _ _ _ h0 h1]
theorem lp_row (x1 x2 x3 : Int) (h0 : 0 ≤ x1) (h1 : x1 < 6) : ∀ (n j : Nat) (v : Nat → Nat → Int), (j : Int) + n = 60 * x1 + 60 → qG L xs d CX12_row 57 [(2, 63), (0, x1), (0, x2), (0, x3), (0, (j : Int))] [] (qS v) = some (some (0, 1), qS (pm_fl v 88 j (j + n) 0))
  | 0, j, v, hj => by
    simp (disch := omega) only [b_X12_row_57, w32_id, if_neg, b_X12_row_83]
    have : pm_fl v 88 j (j + 0) 0 = v := by
      funext a i
      exact if_neg (by omega)
    rw [this]
  | n + 1, j, v, hj => by
    simp (disch := omega) only [b_X12_row_57, w32_id, if_pos, b_X12_row_69]
    rw [b_X12_row_77, w32_id (by omega) (by omega)]
    have h3 := lp_row x1 x2 x3 h0 h1 n (j + 1) (pm_up v 88 (j : Int).toNat 0) (by omega)
    rw [show ((j + 1 : Nat) : Int) = (j : Int) + 1 by omega] at h3
    refine h3.trans ?_
    have : pm_fl (pm_up v 88 (j : Int).toNat 0) 88 (j + 1) (j + 1 + n) 0 = pm_fl v 88 j (j + (n + 1)) 0 := by
      funext a i
      unfold pm_fl pm_up
      by_cases h1 : a = 88 ∧ j + 1 ≤ i ∧ i < j + 1 + n
      · rw [if_pos h1, if_pos (by omega)]
      · rw [if_neg h1]
        by_cases h2 : a = 88 ∧ i = (j : Int).toNat
        · rw [if_pos h2, if_pos (by omega)]
        · rw [if_neg h2, if_neg (by omega)]
    rw [this]
end OC
end
section
/-! THE FIRST STATE's calls: owners, images -/
section OD
variable {L : Nat} {xs : Nat → Int} {d : Nat} {v : Nat → Nat → Int} {a b c x y z : Int}
theorem cd_hasOwner (a : Int) : qE L xs (d + 1) nX2_hasOwner [(0, a)] (qS v) = some (some (0, zb (0 ≤ a ∧ a < 6)), qS v) := by
  simp only [e_X2_hasOwner, b_X2_hasOwner_0, b_X2_hasOwner_4, b_X2_hasOwner_10, b_X2_hasOwner_14, b_X2_hasOwner_15, qB_some, psh_some, psh_none, and_true, true_and, and_false, false_and, and_self, or_true, true_or, or_false, false_or, not_true_eq_false, not_false_eq_true, ↓reduceIte, Int.reduceEq, Int.reduceLT, Int.reduceLE, Int.reduceToNat, Nat.reduceEqDiff, Nat.reduceAdd]
  by_cases h1 : a < 0
  · rw [if_pos h1, zb_f (by omega)]
  · by_cases h2 : a < 6
    · rw [if_neg h1, if_pos h2, zb_t (by omega)]
    · rw [if_neg h1, if_neg h2, zb_f (by omega)]
theorem cd_lent (a b : Int) (h1 : 0 ≤ a ∧ a < 6) (h2 : 0 ≤ b ∧ b < 6) : qE L xs (d + 2) nX2_lent [(2, 41), (0, a), (0, b)] (qS v) = some (some (0, v 42 (a * 6 + b).toNat), qS v) := by
  simp (disch := omega) only [e_X2_lent_41, b_X2_lent_41_0, b_X2_lent_41_4, b_X2_lent_41_7, b_X2_lent_41_11, b_X2_lent_41_14, b_X2_lent_41_25, b_X2_lent_41_28, b_X2_lent_41_29, cd_hasOwner, zb_0, if_pos h1, if_pos h2, w32_id, if_pos, qB_some, psh_some, psh_none, and_true, true_and, and_false, false_and, and_self, or_true, true_or, or_false, false_or, not_true_eq_false, not_false_eq_true, ↓reduceIte, Int.reduceEq, Int.reduceLT, Int.reduceLE, Int.reduceToNat, Nat.reduceEqDiff, Nat.reduceAdd]
theorem cd_areOwners (y : Int) (hy : y < 2147483648) : qE L xs (d + 2) nX11_areOwners [(0, y)] (qS v) = some (some (0, zb (0 ≤ y ∧ y / 10 < 6 ∧ y % 10 < 6 ∧ y / 10 ≠ y % 10)), qS v) := by
  by_cases h0 : 0 ≤ y
  · simp (disch := omega) only [e_X11_areOwners, b_X11_areOwners_0, b_X11_areOwners_4, b_X11_areOwners_11, b_X11_areOwners_14, b_X11_areOwners_21, b_X11_areOwners_24, b_X11_areOwners_35, b_X11_areOwners_39, b_X11_areOwners_40, cd_hasOwner, zb_0, td_pos, tm_pos, w32_id, if_neg, qB_some, psh_some, psh_none, and_true, true_and, and_false, false_and, and_self, or_true, true_or, or_false, false_or, not_true_eq_false, not_false_eq_true, ↓reduceIte, Int.reduceEq, Int.reduceLT, Int.reduceLE, Int.reduceToNat, Nat.reduceEqDiff, Nat.reduceAdd]
    by_cases h1 : 0 ≤ y / 10 ∧ y / 10 < 6
    · rw [if_pos h1]
      by_cases h2 : 0 ≤ y % 10 ∧ y % 10 < 6
      · rw [if_pos h2]
        by_cases h3 : y / 10 = y % 10
        · rw [if_pos h3, zb_f (by omega)]
        · rw [if_neg h3, zb_t (by omega)]
      · rw [if_neg h2, zb_f (by omega)]
    · rw [if_neg h1, zb_f (by omega)]
  · simp (disch := omega) only [e_X11_areOwners, b_X11_areOwners_0, b_X11_areOwners_4, b_X11_areOwners_11, b_X11_areOwners_14, b_X11_areOwners_21, b_X11_areOwners_24, b_X11_areOwners_35, b_X11_areOwners_39, b_X11_areOwners_40, if_pos, zb_f, qB_some, psh_some, psh_none, and_true, true_and, and_false, false_and, and_self, or_true, true_or, or_false, false_or, not_true_eq_false, not_false_eq_true, ↓reduceIte, Int.reduceEq, Int.reduceLT, Int.reduceLE, Int.reduceToNat, Nat.reduceEqDiff, Nat.reduceAdd]
theorem md_isOwner (a : Int) : qE L xs (d + 2) nX12_isOwner [(0, a)] (qS v) = some (some (0, zb (0 ≤ a ∧ a < 6)), qS v) := by
  simp only [e_X12_isOwner, b_X12_isOwner_0, b_X12_isOwner_9, c_within, zb_r, qB_some, psh_some, psh_none, and_true, true_and, and_false, false_and, and_self, or_true, true_or, or_false, false_or, not_true_eq_false, not_false_eq_true, ↓reduceIte, Int.reduceEq, Int.reduceLT, Int.reduceLE, Int.reduceToNat, Nat.reduceEqDiff, Nat.reduceAdd]
  exact ret_zb (by omega)
theorem md_areOwners (y : Int) (hy : y < 2147483648) : qE L xs (d + 3) nX12_areOwners [(0, y)] (qS v) = some (some (0, zb (0 ≤ y ∧ y / 10 < 6 ∧ y % 10 < 6 ∧ y / 10 ≠ y % 10)), qS v) := by
  by_cases h0 : 0 ≤ y
  · simp (disch := omega) only [e_X12_areOwners, b_X12_areOwners_0, b_X12_areOwners_4, b_X12_areOwners_11, b_X12_areOwners_14, b_X12_areOwners_21, b_X12_areOwners_24, b_X12_areOwners_35, b_X12_areOwners_39, b_X12_areOwners_40, md_isOwner, zb_0, td_pos, tm_pos, w32_id, if_neg, qB_some, psh_some, psh_none, and_true, true_and, and_false, false_and, and_self, or_true, true_or, or_false, false_or, not_true_eq_false, not_false_eq_true, ↓reduceIte, Int.reduceEq, Int.reduceLT, Int.reduceLE, Int.reduceToNat, Nat.reduceEqDiff, Nat.reduceAdd]
    by_cases h1 : 0 ≤ y / 10 ∧ y / 10 < 6
    · rw [if_pos h1]
      by_cases h2 : 0 ≤ y % 10 ∧ y % 10 < 6
      · rw [if_pos h2]
        by_cases h3 : y / 10 = y % 10
        · rw [if_pos h3, zb_f (by omega)]
        · rw [if_neg h3, zb_t (by omega)]
      · rw [if_neg h2, zb_f (by omega)]
    · rw [if_neg h1, zb_f (by omega)]
  · simp (disch := omega) only [e_X12_areOwners, b_X12_areOwners_0, b_X12_areOwners_4, b_X12_areOwners_11, b_X12_areOwners_14, b_X12_areOwners_21, b_X12_areOwners_24, b_X12_areOwners_35, b_X12_areOwners_39, b_X12_areOwners_40, if_pos, zb_f, qB_some, psh_some, psh_none, and_true, true_and, and_false, false_and, and_self, or_true, true_or, or_false, false_or, not_true_eq_false, not_false_eq_true, ↓reduceIte, Int.reduceEq, Int.reduceLT, Int.reduceLE, Int.reduceToNat, Nat.reduceEqDiff, Nat.reduceAdd]
def pm_cp (v : Nat → Nat → Int) (s t lo hi : Nat) : Nat → Nat → Int := fun a i => if a = t ∧ lo ≤ i ∧ i < hi then v s i else v a i
theorem pm_cp_step {s t j n : Nat} (hst : s ≠ t) : pm_cp (pm_up v t (j : Int).toNat (v s (j : Int).toNat)) s t (j + 1) (j + 1 + n) = pm_cp v s t j (j + (n + 1)) := by
  funext a i
  unfold pm_cp
  by_cases h1 : a = t ∧ j + 1 ≤ i ∧ i < j + 1 + n
  · rw [if_pos h1, if_pos (by omega), up_ne (by omega)]
  · rw [if_neg h1]
    by_cases h2 : a = t ∧ i = j
    · rw [if_pos (by omega), h2.1, h2.2, show (j : Int).toNat = j by omega, up_eq]
    · rw [if_neg (by omega), up_ne (by omega)]
theorem pm_cp_0 {s t j : Nat} : pm_cp v s t j (j + 0) = v := by
  funext a i
  exact if_neg (by omega)
theorem lp_left (x1 x2 x3 : Int) : ∀ (n j : Nat) (v : Nat → Nat → Int), j + n = 36 → qG L xs d CX12_bricks 112 [(2, 63), (0, x1), (0, x2), (0, x3), (0, (j : Int))] [] (qS v) = qG L xs d CX12_bricks 139 [(2, 63), (0, x1), (0, x2), (0, x3), (0, 36)] [] (qS (pm_cp v 79 80 j (j + n)))
  | 0, j, v, hj => by
    rw [b_X12_bricks_112, if_neg (by omega), show (j : Int) = 36 by omega, pm_cp_0]
  | n + 1, j, v, hj => by
    rw [b_X12_bricks_112, if_pos (by omega), b_X12_bricks_119, if_pos (by omega), b_X12_bricks_132, if_pos (by omega), b_X12_bricks_133, w32_id (by omega) (by omega)]
    have h3 := lp_left x1 x2 x3 n (j + 1) (pm_up v 80 (j : Int).toNat (v 79 (j : Int).toNat)) (by omega)
    rw [show ((j + 1 : Nat) : Int) = (j : Int) + 1 by omega, pm_cp_step (by decide)] at h3
    exact h3
end OD
end
section
/-! THE FIRST STATE's calls: numbers told and changed (written by wip/p1/29.opse.py) -/
section OE
variable {L : Nat} {xs : Nat → Int} {d : Nat} {v : Nat → Nat → Int} {a b c x y z : Int}
theorem hm_0 : hm v 0 = 30 := rfl
theorem hm_1 : hm v 1 = 30 := rfl
theorem hm_10 : hm v 10 = 1 := rfl
theorem hm_fr {w : Nat → Nat → Int} (h : w 1 = v 1) (a : Int) : hm w a = hm v a := by
  unfold hm
  rw [h]
theorem c_allows_0 (z : Int) : qE L xs (d + 1) nX9_allows [(0, 0), (0, z)] (qS v) = some (some (0, zb (1 ≤ z ∧ z ≤ 9)), qS v) := by
  simp only [e_X9_allows, b_X9_allows_0, b_X9_allows_4, b_X9_allows_12, b_X9_allows_18, b_X9_allows_21, b_X9_allows_27, b_X9_allows_30, b_X9_allows_34, b_X9_allows_35, show pm_lof [1, 0, -1, 0, 1, 0, 1, 0, 2, 1, 0, 0] 0 = 1 from rfl, show pm_lof [9, 99, 5, 1, 9, 1, 9, 99, 30, 30, 9, 99] 0 = 9 from rfl, qB_some, psh_some, psh_none, and_true, true_and, and_false, false_and, and_self, or_true, true_or, or_false, false_or, not_true_eq_false, not_false_eq_true, ↓reduceIte, Int.reduceEq, Int.reduceLT, Int.reduceLE, Int.reduceToNat, Nat.reduceEqDiff, Nat.reduceAdd]
  by_cases h1 : z < 1
  · rw [if_pos h1, zb_f (by omega)]
  · by_cases h2 : 9 < z
    · rw [if_neg h1, if_pos h2, zb_f (by omega)]
    · rw [if_neg h1, if_neg h2, zb_t (by omega)]
theorem m_may_0 (z : Int) : qE L xs (d + 2) nX12_mayBecome [(0, 0), (1, z)] (qS v) = some (some (0, zb (1 ≤ z ∧ z ≤ 9)), qS v) := by
  simp (disch := omega) only [e_X12_mayBecome, b_X12_mayBecome_0_v0, b_X12_mayBecome_0_v1, b_X12_mayBecome_0_v2, b_X12_mayBecome_0_v3, b_X12_mayBecome_0_v4, b_X12_mayBecome_0_v5, b_X12_mayBecome_0_v6, b_X12_mayBecome_0_v7, b_X12_mayBecome_0_v8, b_X12_mayBecome_0_v9, b_X12_mayBecome_0_v10, b_X12_mayBecome_0_o, b_X12_mayBecome_60, b_X12_mayBecome_68, b_X12_mayBecome_69, b_X12_mayBecome_79, b_X12_mayBecome_80, b_X12_mayBecome_86, b_X12_mayBecome_87, b_X12_mayBecome_97, b_X12_mayBecome_98, b_X12_mayBecome_106, b_X12_mayBecome_107, b_X12_mayBecome_115, b_X12_mayBecome_116, b_X12_mayBecome_124, c_within, zb_r, qB_some, psh_some, psh_none, and_true, true_and, and_false, false_and, and_self, or_true, true_or, or_false, false_or, not_true_eq_false, not_false_eq_true, ↓reduceIte, Int.reduceEq, Int.reduceLT, Int.reduceLE, Int.reduceToNat, Nat.reduceEqDiff, Nat.reduceAdd]
theorem c_allows_1 (z : Int) : qE L xs (d + 1) nX9_allows [(0, 1), (0, z)] (qS v) = some (some (0, zb (0 ≤ z ∧ z ≤ 99)), qS v) := by
  simp only [e_X9_allows, b_X9_allows_0, b_X9_allows_4, b_X9_allows_12, b_X9_allows_18, b_X9_allows_21, b_X9_allows_27, b_X9_allows_30, b_X9_allows_34, b_X9_allows_35, show pm_lof [1, 0, -1, 0, 1, 0, 1, 0, 2, 1, 0, 0] 1 = 0 from rfl, show pm_lof [9, 99, 5, 1, 9, 1, 9, 99, 30, 30, 9, 99] 1 = 99 from rfl, qB_some, psh_some, psh_none, and_true, true_and, and_false, false_and, and_self, or_true, true_or, or_false, false_or, not_true_eq_false, not_false_eq_true, ↓reduceIte, Int.reduceEq, Int.reduceLT, Int.reduceLE, Int.reduceToNat, Nat.reduceEqDiff, Nat.reduceAdd]
  by_cases h1 : z < 0
  · rw [if_pos h1, zb_f (by omega)]
  · by_cases h2 : 99 < z
    · rw [if_neg h1, if_pos h2, zb_f (by omega)]
    · rw [if_neg h1, if_neg h2, zb_t (by omega)]
theorem m_may_1 (z : Int) : qE L xs (d + 2) nX12_mayBecome [(0, 1), (1, z)] (qS v) = some (some (0, zb (0 ≤ z ∧ z ≤ 99)), qS v) := by
  simp (disch := omega) only [e_X12_mayBecome, b_X12_mayBecome_0_v0, b_X12_mayBecome_0_v1, b_X12_mayBecome_0_v2, b_X12_mayBecome_0_v3, b_X12_mayBecome_0_v4, b_X12_mayBecome_0_v5, b_X12_mayBecome_0_v6, b_X12_mayBecome_0_v7, b_X12_mayBecome_0_v8, b_X12_mayBecome_0_v9, b_X12_mayBecome_0_v10, b_X12_mayBecome_0_o, b_X12_mayBecome_60, b_X12_mayBecome_68, b_X12_mayBecome_69, b_X12_mayBecome_79, b_X12_mayBecome_80, b_X12_mayBecome_86, b_X12_mayBecome_87, b_X12_mayBecome_97, b_X12_mayBecome_98, b_X12_mayBecome_106, b_X12_mayBecome_107, b_X12_mayBecome_115, b_X12_mayBecome_116, b_X12_mayBecome_124, c_within, zb_r, qB_some, psh_some, psh_none, and_true, true_and, and_false, false_and, and_self, or_true, true_or, or_false, false_or, not_true_eq_false, not_false_eq_true, ↓reduceIte, Int.reduceEq, Int.reduceLT, Int.reduceLE, Int.reduceToNat, Nat.reduceEqDiff, Nat.reduceAdd]
theorem c_allows_2 (z : Int) : qE L xs (d + 1) nX9_allows [(0, 2), (0, z)] (qS v) = some (some (0, zb ((-1) ≤ z ∧ z ≤ 5)), qS v) := by
  simp only [e_X9_allows, b_X9_allows_0, b_X9_allows_4, b_X9_allows_12, b_X9_allows_18, b_X9_allows_21, b_X9_allows_27, b_X9_allows_30, b_X9_allows_34, b_X9_allows_35, show pm_lof [1, 0, -1, 0, 1, 0, 1, 0, 2, 1, 0, 0] 2 = (-1) from rfl, show pm_lof [9, 99, 5, 1, 9, 1, 9, 99, 30, 30, 9, 99] 2 = 5 from rfl, qB_some, psh_some, psh_none, and_true, true_and, and_false, false_and, and_self, or_true, true_or, or_false, false_or, not_true_eq_false, not_false_eq_true, ↓reduceIte, Int.reduceEq, Int.reduceLT, Int.reduceLE, Int.reduceToNat, Nat.reduceEqDiff, Nat.reduceAdd]
  by_cases h1 : z < (-1)
  · rw [if_pos h1, zb_f (by omega)]
  · by_cases h2 : 5 < z
    · rw [if_neg h1, if_pos h2, zb_f (by omega)]
    · rw [if_neg h1, if_neg h2, zb_t (by omega)]
theorem m_may_2 (z : Int) : qE L xs (d + 2) nX12_mayBecome [(0, 2), (1, z)] (qS v) = some (some (0, zb ((-1) ≤ z ∧ z ≤ 5)), qS v) := by
  simp (disch := omega) only [e_X12_mayBecome, b_X12_mayBecome_0_v0, b_X12_mayBecome_0_v1, b_X12_mayBecome_0_v2, b_X12_mayBecome_0_v3, b_X12_mayBecome_0_v4, b_X12_mayBecome_0_v5, b_X12_mayBecome_0_v6, b_X12_mayBecome_0_v7, b_X12_mayBecome_0_v8, b_X12_mayBecome_0_v9, b_X12_mayBecome_0_v10, b_X12_mayBecome_0_o, b_X12_mayBecome_60, b_X12_mayBecome_68, b_X12_mayBecome_69, b_X12_mayBecome_79, b_X12_mayBecome_80, b_X12_mayBecome_86, b_X12_mayBecome_87, b_X12_mayBecome_97, b_X12_mayBecome_98, b_X12_mayBecome_106, b_X12_mayBecome_107, b_X12_mayBecome_115, b_X12_mayBecome_116, b_X12_mayBecome_124, c_within, zb_r, qB_some, psh_some, psh_none, and_true, true_and, and_false, false_and, and_self, or_true, true_or, or_false, false_or, not_true_eq_false, not_false_eq_true, ↓reduceIte, Int.reduceEq, Int.reduceLT, Int.reduceLE, Int.reduceToNat, Nat.reduceEqDiff, Nat.reduceAdd]
theorem c_allows_3 (z : Int) : qE L xs (d + 1) nX9_allows [(0, 3), (0, z)] (qS v) = some (some (0, zb (0 ≤ z ∧ z ≤ 1)), qS v) := by
  simp only [e_X9_allows, b_X9_allows_0, b_X9_allows_4, b_X9_allows_12, b_X9_allows_18, b_X9_allows_21, b_X9_allows_27, b_X9_allows_30, b_X9_allows_34, b_X9_allows_35, show pm_lof [1, 0, -1, 0, 1, 0, 1, 0, 2, 1, 0, 0] 3 = 0 from rfl, show pm_lof [9, 99, 5, 1, 9, 1, 9, 99, 30, 30, 9, 99] 3 = 1 from rfl, qB_some, psh_some, psh_none, and_true, true_and, and_false, false_and, and_self, or_true, true_or, or_false, false_or, not_true_eq_false, not_false_eq_true, ↓reduceIte, Int.reduceEq, Int.reduceLT, Int.reduceLE, Int.reduceToNat, Nat.reduceEqDiff, Nat.reduceAdd]
  by_cases h1 : z < 0
  · rw [if_pos h1, zb_f (by omega)]
  · by_cases h2 : 1 < z
    · rw [if_neg h1, if_pos h2, zb_f (by omega)]
    · rw [if_neg h1, if_neg h2, zb_t (by omega)]
theorem m_may_3 (z : Int) : qE L xs (d + 2) nX12_mayBecome [(0, 3), (1, z)] (qS v) = some (some (0, zb (0 ≤ z ∧ z ≤ 1)), qS v) := by
  simp (disch := omega) only [e_X12_mayBecome, b_X12_mayBecome_0_v0, b_X12_mayBecome_0_v1, b_X12_mayBecome_0_v2, b_X12_mayBecome_0_v3, b_X12_mayBecome_0_v4, b_X12_mayBecome_0_v5, b_X12_mayBecome_0_v6, b_X12_mayBecome_0_v7, b_X12_mayBecome_0_v8, b_X12_mayBecome_0_v9, b_X12_mayBecome_0_v10, b_X12_mayBecome_0_o, b_X12_mayBecome_60, b_X12_mayBecome_68, b_X12_mayBecome_69, b_X12_mayBecome_79, b_X12_mayBecome_80, b_X12_mayBecome_86, b_X12_mayBecome_87, b_X12_mayBecome_97, b_X12_mayBecome_98, b_X12_mayBecome_106, b_X12_mayBecome_107, b_X12_mayBecome_115, b_X12_mayBecome_116, b_X12_mayBecome_124, c_within, zb_r, qB_some, psh_some, psh_none, and_true, true_and, and_false, false_and, and_self, or_true, true_or, or_false, false_or, not_true_eq_false, not_false_eq_true, ↓reduceIte, Int.reduceEq, Int.reduceLT, Int.reduceLE, Int.reduceToNat, Nat.reduceEqDiff, Nat.reduceAdd]
theorem c_allows_4 (z : Int) : qE L xs (d + 1) nX9_allows [(0, 4), (0, z)] (qS v) = some (some (0, zb (1 ≤ z ∧ z ≤ 9)), qS v) := by
  simp only [e_X9_allows, b_X9_allows_0, b_X9_allows_4, b_X9_allows_12, b_X9_allows_18, b_X9_allows_21, b_X9_allows_27, b_X9_allows_30, b_X9_allows_34, b_X9_allows_35, show pm_lof [1, 0, -1, 0, 1, 0, 1, 0, 2, 1, 0, 0] 4 = 1 from rfl, show pm_lof [9, 99, 5, 1, 9, 1, 9, 99, 30, 30, 9, 99] 4 = 9 from rfl, qB_some, psh_some, psh_none, and_true, true_and, and_false, false_and, and_self, or_true, true_or, or_false, false_or, not_true_eq_false, not_false_eq_true, ↓reduceIte, Int.reduceEq, Int.reduceLT, Int.reduceLE, Int.reduceToNat, Nat.reduceEqDiff, Nat.reduceAdd]
  by_cases h1 : z < 1
  · rw [if_pos h1, zb_f (by omega)]
  · by_cases h2 : 9 < z
    · rw [if_neg h1, if_pos h2, zb_f (by omega)]
    · rw [if_neg h1, if_neg h2, zb_t (by omega)]
theorem m_may_4 (z : Int) : qE L xs (d + 2) nX12_mayBecome [(0, 4), (1, z)] (qS v) = some (some (0, zb (1 ≤ z ∧ z ≤ 9)), qS v) := by
  simp (disch := omega) only [e_X12_mayBecome, b_X12_mayBecome_0_v0, b_X12_mayBecome_0_v1, b_X12_mayBecome_0_v2, b_X12_mayBecome_0_v3, b_X12_mayBecome_0_v4, b_X12_mayBecome_0_v5, b_X12_mayBecome_0_v6, b_X12_mayBecome_0_v7, b_X12_mayBecome_0_v8, b_X12_mayBecome_0_v9, b_X12_mayBecome_0_v10, b_X12_mayBecome_0_o, b_X12_mayBecome_60, b_X12_mayBecome_68, b_X12_mayBecome_69, b_X12_mayBecome_79, b_X12_mayBecome_80, b_X12_mayBecome_86, b_X12_mayBecome_87, b_X12_mayBecome_97, b_X12_mayBecome_98, b_X12_mayBecome_106, b_X12_mayBecome_107, b_X12_mayBecome_115, b_X12_mayBecome_116, b_X12_mayBecome_124, c_within, zb_r, qB_some, psh_some, psh_none, and_true, true_and, and_false, false_and, and_self, or_true, true_or, or_false, false_or, not_true_eq_false, not_false_eq_true, ↓reduceIte, Int.reduceEq, Int.reduceLT, Int.reduceLE, Int.reduceToNat, Nat.reduceEqDiff, Nat.reduceAdd]
theorem c_allows_5 (z : Int) : qE L xs (d + 1) nX9_allows [(0, 5), (0, z)] (qS v) = some (some (0, zb (0 ≤ z ∧ z ≤ 1)), qS v) := by
  simp only [e_X9_allows, b_X9_allows_0, b_X9_allows_4, b_X9_allows_12, b_X9_allows_18, b_X9_allows_21, b_X9_allows_27, b_X9_allows_30, b_X9_allows_34, b_X9_allows_35, show pm_lof [1, 0, -1, 0, 1, 0, 1, 0, 2, 1, 0, 0] 5 = 0 from rfl, show pm_lof [9, 99, 5, 1, 9, 1, 9, 99, 30, 30, 9, 99] 5 = 1 from rfl, qB_some, psh_some, psh_none, and_true, true_and, and_false, false_and, and_self, or_true, true_or, or_false, false_or, not_true_eq_false, not_false_eq_true, ↓reduceIte, Int.reduceEq, Int.reduceLT, Int.reduceLE, Int.reduceToNat, Nat.reduceEqDiff, Nat.reduceAdd]
  by_cases h1 : z < 0
  · rw [if_pos h1, zb_f (by omega)]
  · by_cases h2 : 1 < z
    · rw [if_neg h1, if_pos h2, zb_f (by omega)]
    · rw [if_neg h1, if_neg h2, zb_t (by omega)]
theorem m_may_5 (z : Int) : qE L xs (d + 2) nX12_mayBecome [(0, 5), (1, z)] (qS v) = some (some (0, zb (0 ≤ z ∧ z ≤ 1)), qS v) := by
  simp (disch := omega) only [e_X12_mayBecome, b_X12_mayBecome_0_v0, b_X12_mayBecome_0_v1, b_X12_mayBecome_0_v2, b_X12_mayBecome_0_v3, b_X12_mayBecome_0_v4, b_X12_mayBecome_0_v5, b_X12_mayBecome_0_v6, b_X12_mayBecome_0_v7, b_X12_mayBecome_0_v8, b_X12_mayBecome_0_v9, b_X12_mayBecome_0_v10, b_X12_mayBecome_0_o, b_X12_mayBecome_60, b_X12_mayBecome_68, b_X12_mayBecome_69, b_X12_mayBecome_79, b_X12_mayBecome_80, b_X12_mayBecome_86, b_X12_mayBecome_87, b_X12_mayBecome_97, b_X12_mayBecome_98, b_X12_mayBecome_106, b_X12_mayBecome_107, b_X12_mayBecome_115, b_X12_mayBecome_116, b_X12_mayBecome_124, c_within, zb_r, qB_some, psh_some, psh_none, and_true, true_and, and_false, false_and, and_self, or_true, true_or, or_false, false_or, not_true_eq_false, not_false_eq_true, ↓reduceIte, Int.reduceEq, Int.reduceLT, Int.reduceLE, Int.reduceToNat, Nat.reduceEqDiff, Nat.reduceAdd]
theorem c_allows_6 (z : Int) : qE L xs (d + 1) nX9_allows [(0, 6), (0, z)] (qS v) = some (some (0, zb (1 ≤ z ∧ z ≤ 9)), qS v) := by
  simp only [e_X9_allows, b_X9_allows_0, b_X9_allows_4, b_X9_allows_12, b_X9_allows_18, b_X9_allows_21, b_X9_allows_27, b_X9_allows_30, b_X9_allows_34, b_X9_allows_35, show pm_lof [1, 0, -1, 0, 1, 0, 1, 0, 2, 1, 0, 0] 6 = 1 from rfl, show pm_lof [9, 99, 5, 1, 9, 1, 9, 99, 30, 30, 9, 99] 6 = 9 from rfl, qB_some, psh_some, psh_none, and_true, true_and, and_false, false_and, and_self, or_true, true_or, or_false, false_or, not_true_eq_false, not_false_eq_true, ↓reduceIte, Int.reduceEq, Int.reduceLT, Int.reduceLE, Int.reduceToNat, Nat.reduceEqDiff, Nat.reduceAdd]
  by_cases h1 : z < 1
  · rw [if_pos h1, zb_f (by omega)]
  · by_cases h2 : 9 < z
    · rw [if_neg h1, if_pos h2, zb_f (by omega)]
    · rw [if_neg h1, if_neg h2, zb_t (by omega)]
theorem m_may_6 (z : Int) : qE L xs (d + 2) nX12_mayBecome [(0, 6), (1, z)] (qS v) = some (some (0, zb (1 ≤ z ∧ z ≤ 9)), qS v) := by
  simp (disch := omega) only [e_X12_mayBecome, b_X12_mayBecome_0_v0, b_X12_mayBecome_0_v1, b_X12_mayBecome_0_v2, b_X12_mayBecome_0_v3, b_X12_mayBecome_0_v4, b_X12_mayBecome_0_v5, b_X12_mayBecome_0_v6, b_X12_mayBecome_0_v7, b_X12_mayBecome_0_v8, b_X12_mayBecome_0_v9, b_X12_mayBecome_0_v10, b_X12_mayBecome_0_o, b_X12_mayBecome_60, b_X12_mayBecome_68, b_X12_mayBecome_69, b_X12_mayBecome_79, b_X12_mayBecome_80, b_X12_mayBecome_86, b_X12_mayBecome_87, b_X12_mayBecome_97, b_X12_mayBecome_98, b_X12_mayBecome_106, b_X12_mayBecome_107, b_X12_mayBecome_115, b_X12_mayBecome_116, b_X12_mayBecome_124, c_within, zb_r, qB_some, psh_some, psh_none, and_true, true_and, and_false, false_and, and_self, or_true, true_or, or_false, false_or, not_true_eq_false, not_false_eq_true, ↓reduceIte, Int.reduceEq, Int.reduceLT, Int.reduceLE, Int.reduceToNat, Nat.reduceEqDiff, Nat.reduceAdd]
theorem c_allows_7 (z : Int) : qE L xs (d + 1) nX9_allows [(0, 7), (0, z)] (qS v) = some (some (0, zb (0 ≤ z ∧ z ≤ 99)), qS v) := by
  simp only [e_X9_allows, b_X9_allows_0, b_X9_allows_4, b_X9_allows_12, b_X9_allows_18, b_X9_allows_21, b_X9_allows_27, b_X9_allows_30, b_X9_allows_34, b_X9_allows_35, show pm_lof [1, 0, -1, 0, 1, 0, 1, 0, 2, 1, 0, 0] 7 = 0 from rfl, show pm_lof [9, 99, 5, 1, 9, 1, 9, 99, 30, 30, 9, 99] 7 = 99 from rfl, qB_some, psh_some, psh_none, and_true, true_and, and_false, false_and, and_self, or_true, true_or, or_false, false_or, not_true_eq_false, not_false_eq_true, ↓reduceIte, Int.reduceEq, Int.reduceLT, Int.reduceLE, Int.reduceToNat, Nat.reduceEqDiff, Nat.reduceAdd]
  by_cases h1 : z < 0
  · rw [if_pos h1, zb_f (by omega)]
  · by_cases h2 : 99 < z
    · rw [if_neg h1, if_pos h2, zb_f (by omega)]
    · rw [if_neg h1, if_neg h2, zb_t (by omega)]
theorem m_may_7 (z : Int) : qE L xs (d + 2) nX12_mayBecome [(0, 7), (1, z)] (qS v) = some (some (0, zb (0 ≤ z ∧ z ≤ 99)), qS v) := by
  simp (disch := omega) only [e_X12_mayBecome, b_X12_mayBecome_0_v0, b_X12_mayBecome_0_v1, b_X12_mayBecome_0_v2, b_X12_mayBecome_0_v3, b_X12_mayBecome_0_v4, b_X12_mayBecome_0_v5, b_X12_mayBecome_0_v6, b_X12_mayBecome_0_v7, b_X12_mayBecome_0_v8, b_X12_mayBecome_0_v9, b_X12_mayBecome_0_v10, b_X12_mayBecome_0_o, b_X12_mayBecome_60, b_X12_mayBecome_68, b_X12_mayBecome_69, b_X12_mayBecome_79, b_X12_mayBecome_80, b_X12_mayBecome_86, b_X12_mayBecome_87, b_X12_mayBecome_97, b_X12_mayBecome_98, b_X12_mayBecome_106, b_X12_mayBecome_107, b_X12_mayBecome_115, b_X12_mayBecome_116, b_X12_mayBecome_124, c_within, zb_r, qB_some, psh_some, psh_none, and_true, true_and, and_false, false_and, and_self, or_true, true_or, or_false, false_or, not_true_eq_false, not_false_eq_true, ↓reduceIte, Int.reduceEq, Int.reduceLT, Int.reduceLE, Int.reduceToNat, Nat.reduceEqDiff, Nat.reduceAdd]
theorem c_allows_8 (z : Int) : qE L xs (d + 1) nX9_allows [(0, 8), (0, z)] (qS v) = some (some (0, zb (2 ≤ z ∧ z ≤ 30)), qS v) := by
  simp only [e_X9_allows, b_X9_allows_0, b_X9_allows_4, b_X9_allows_12, b_X9_allows_18, b_X9_allows_21, b_X9_allows_27, b_X9_allows_30, b_X9_allows_34, b_X9_allows_35, show pm_lof [1, 0, -1, 0, 1, 0, 1, 0, 2, 1, 0, 0] 8 = 2 from rfl, show pm_lof [9, 99, 5, 1, 9, 1, 9, 99, 30, 30, 9, 99] 8 = 30 from rfl, qB_some, psh_some, psh_none, and_true, true_and, and_false, false_and, and_self, or_true, true_or, or_false, false_or, not_true_eq_false, not_false_eq_true, ↓reduceIte, Int.reduceEq, Int.reduceLT, Int.reduceLE, Int.reduceToNat, Nat.reduceEqDiff, Nat.reduceAdd]
  by_cases h1 : z < 2
  · rw [if_pos h1, zb_f (by omega)]
  · by_cases h2 : 30 < z
    · rw [if_neg h1, if_pos h2, zb_f (by omega)]
    · rw [if_neg h1, if_neg h2, zb_t (by omega)]
theorem m_may_8 (z : Int) : qE L xs (d + 2) nX12_mayBecome [(0, 8), (1, z)] (qS v) = some (some (0, zb (2 ≤ z ∧ z ≤ 30)), qS v) := by
  simp (disch := omega) only [e_X12_mayBecome, b_X12_mayBecome_0_v0, b_X12_mayBecome_0_v1, b_X12_mayBecome_0_v2, b_X12_mayBecome_0_v3, b_X12_mayBecome_0_v4, b_X12_mayBecome_0_v5, b_X12_mayBecome_0_v6, b_X12_mayBecome_0_v7, b_X12_mayBecome_0_v8, b_X12_mayBecome_0_v9, b_X12_mayBecome_0_v10, b_X12_mayBecome_0_o, b_X12_mayBecome_60, b_X12_mayBecome_68, b_X12_mayBecome_69, b_X12_mayBecome_79, b_X12_mayBecome_80, b_X12_mayBecome_86, b_X12_mayBecome_87, b_X12_mayBecome_97, b_X12_mayBecome_98, b_X12_mayBecome_106, b_X12_mayBecome_107, b_X12_mayBecome_115, b_X12_mayBecome_116, b_X12_mayBecome_124, c_within, zb_r, qB_some, psh_some, psh_none, and_true, true_and, and_false, false_and, and_self, or_true, true_or, or_false, false_or, not_true_eq_false, not_false_eq_true, ↓reduceIte, Int.reduceEq, Int.reduceLT, Int.reduceLE, Int.reduceToNat, Nat.reduceEqDiff, Nat.reduceAdd]
theorem c_allows_9 (z : Int) : qE L xs (d + 1) nX9_allows [(0, 9), (0, z)] (qS v) = some (some (0, zb (1 ≤ z ∧ z ≤ 30)), qS v) := by
  simp only [e_X9_allows, b_X9_allows_0, b_X9_allows_4, b_X9_allows_12, b_X9_allows_18, b_X9_allows_21, b_X9_allows_27, b_X9_allows_30, b_X9_allows_34, b_X9_allows_35, show pm_lof [1, 0, -1, 0, 1, 0, 1, 0, 2, 1, 0, 0] 9 = 1 from rfl, show pm_lof [9, 99, 5, 1, 9, 1, 9, 99, 30, 30, 9, 99] 9 = 30 from rfl, qB_some, psh_some, psh_none, and_true, true_and, and_false, false_and, and_self, or_true, true_or, or_false, false_or, not_true_eq_false, not_false_eq_true, ↓reduceIte, Int.reduceEq, Int.reduceLT, Int.reduceLE, Int.reduceToNat, Nat.reduceEqDiff, Nat.reduceAdd]
  by_cases h1 : z < 1
  · rw [if_pos h1, zb_f (by omega)]
  · by_cases h2 : 30 < z
    · rw [if_neg h1, if_pos h2, zb_f (by omega)]
    · rw [if_neg h1, if_neg h2, zb_t (by omega)]
theorem m_may_9 (z : Int) : qE L xs (d + 2) nX12_mayBecome [(0, 9), (1, z)] (qS v) = some (some (0, zb (1 ≤ z ∧ z ≤ 30)), qS v) := by
  simp (disch := omega) only [e_X12_mayBecome, b_X12_mayBecome_0_v0, b_X12_mayBecome_0_v1, b_X12_mayBecome_0_v2, b_X12_mayBecome_0_v3, b_X12_mayBecome_0_v4, b_X12_mayBecome_0_v5, b_X12_mayBecome_0_v6, b_X12_mayBecome_0_v7, b_X12_mayBecome_0_v8, b_X12_mayBecome_0_v9, b_X12_mayBecome_0_v10, b_X12_mayBecome_0_o, b_X12_mayBecome_60, b_X12_mayBecome_68, b_X12_mayBecome_69, b_X12_mayBecome_79, b_X12_mayBecome_80, b_X12_mayBecome_86, b_X12_mayBecome_87, b_X12_mayBecome_97, b_X12_mayBecome_98, b_X12_mayBecome_106, b_X12_mayBecome_107, b_X12_mayBecome_115, b_X12_mayBecome_116, b_X12_mayBecome_124, c_within, zb_r, qB_some, psh_some, psh_none, and_true, true_and, and_false, false_and, and_self, or_true, true_or, or_false, false_or, not_true_eq_false, not_false_eq_true, ↓reduceIte, Int.reduceEq, Int.reduceLT, Int.reduceLE, Int.reduceToNat, Nat.reduceEqDiff, Nat.reduceAdd]
theorem c_allows_10 (z : Int) : qE L xs (d + 1) nX9_allows [(0, 10), (0, z)] (qS v) = some (some (0, zb (0 ≤ z ∧ z ≤ 9)), qS v) := by
  simp only [e_X9_allows, b_X9_allows_0, b_X9_allows_4, b_X9_allows_12, b_X9_allows_18, b_X9_allows_21, b_X9_allows_27, b_X9_allows_30, b_X9_allows_34, b_X9_allows_35, show pm_lof [1, 0, -1, 0, 1, 0, 1, 0, 2, 1, 0, 0] 10 = 0 from rfl, show pm_lof [9, 99, 5, 1, 9, 1, 9, 99, 30, 30, 9, 99] 10 = 9 from rfl, qB_some, psh_some, psh_none, and_true, true_and, and_false, false_and, and_self, or_true, true_or, or_false, false_or, not_true_eq_false, not_false_eq_true, ↓reduceIte, Int.reduceEq, Int.reduceLT, Int.reduceLE, Int.reduceToNat, Nat.reduceEqDiff, Nat.reduceAdd]
  by_cases h1 : z < 0
  · rw [if_pos h1, zb_f (by omega)]
  · by_cases h2 : 9 < z
    · rw [if_neg h1, if_pos h2, zb_f (by omega)]
    · rw [if_neg h1, if_neg h2, zb_t (by omega)]
theorem m_may_10 (z : Int) : qE L xs (d + 2) nX12_mayBecome [(0, 10), (1, z)] (qS v) = some (some (0, zb (0 ≤ z ∧ z ≤ 9)), qS v) := by
  simp (disch := omega) only [e_X12_mayBecome, b_X12_mayBecome_0_v0, b_X12_mayBecome_0_v1, b_X12_mayBecome_0_v2, b_X12_mayBecome_0_v3, b_X12_mayBecome_0_v4, b_X12_mayBecome_0_v5, b_X12_mayBecome_0_v6, b_X12_mayBecome_0_v7, b_X12_mayBecome_0_v8, b_X12_mayBecome_0_v9, b_X12_mayBecome_0_v10, b_X12_mayBecome_0_o, b_X12_mayBecome_60, b_X12_mayBecome_68, b_X12_mayBecome_69, b_X12_mayBecome_79, b_X12_mayBecome_80, b_X12_mayBecome_86, b_X12_mayBecome_87, b_X12_mayBecome_97, b_X12_mayBecome_98, b_X12_mayBecome_106, b_X12_mayBecome_107, b_X12_mayBecome_115, b_X12_mayBecome_116, b_X12_mayBecome_124, c_within, zb_r, qB_some, psh_some, psh_none, and_true, true_and, and_false, false_and, and_self, or_true, true_or, or_false, false_or, not_true_eq_false, not_false_eq_true, ↓reduceIte, Int.reduceEq, Int.reduceLT, Int.reduceLE, Int.reduceToNat, Nat.reduceEqDiff, Nat.reduceAdd]
theorem c_allows_11 (z : Int) : qE L xs (d + 1) nX9_allows [(0, 11), (0, z)] (qS v) = some (some (0, zb (0 ≤ z ∧ z ≤ 99)), qS v) := by
  simp only [e_X9_allows, b_X9_allows_0, b_X9_allows_4, b_X9_allows_12, b_X9_allows_18, b_X9_allows_21, b_X9_allows_27, b_X9_allows_30, b_X9_allows_34, b_X9_allows_35, show pm_lof [1, 0, -1, 0, 1, 0, 1, 0, 2, 1, 0, 0] 11 = 0 from rfl, show pm_lof [9, 99, 5, 1, 9, 1, 9, 99, 30, 30, 9, 99] 11 = 99 from rfl, qB_some, psh_some, psh_none, and_true, true_and, and_false, false_and, and_self, or_true, true_or, or_false, false_or, not_true_eq_false, not_false_eq_true, ↓reduceIte, Int.reduceEq, Int.reduceLT, Int.reduceLE, Int.reduceToNat, Nat.reduceEqDiff, Nat.reduceAdd]
  by_cases h1 : z < 0
  · rw [if_pos h1, zb_f (by omega)]
  · by_cases h2 : 99 < z
    · rw [if_neg h1, if_pos h2, zb_f (by omega)]
    · rw [if_neg h1, if_neg h2, zb_t (by omega)]
theorem m_may_11 (z : Int) : qE L xs (d + 2) nX12_mayBecome [(0, 11), (1, z)] (qS v) = some (some (0, zb (0 ≤ z ∧ z ≤ 99)), qS v) := by
  simp (disch := omega) only [e_X12_mayBecome, b_X12_mayBecome_0_v0, b_X12_mayBecome_0_v1, b_X12_mayBecome_0_v2, b_X12_mayBecome_0_v3, b_X12_mayBecome_0_v4, b_X12_mayBecome_0_v5, b_X12_mayBecome_0_v6, b_X12_mayBecome_0_v7, b_X12_mayBecome_0_v8, b_X12_mayBecome_0_v9, b_X12_mayBecome_0_v10, b_X12_mayBecome_0_o, b_X12_mayBecome_60, b_X12_mayBecome_68, b_X12_mayBecome_69, b_X12_mayBecome_79, b_X12_mayBecome_80, b_X12_mayBecome_86, b_X12_mayBecome_87, b_X12_mayBecome_97, b_X12_mayBecome_98, b_X12_mayBecome_106, b_X12_mayBecome_107, b_X12_mayBecome_115, b_X12_mayBecome_116, b_X12_mayBecome_124, c_within, zb_r, qB_some, psh_some, psh_none, and_true, true_and, and_false, false_and, and_self, or_true, true_or, or_false, false_or, not_true_eq_false, not_false_eq_true, ↓reduceIte, Int.reduceEq, Int.reduceLT, Int.reduceLE, Int.reduceToNat, Nat.reduceEqDiff, Nat.reduceAdd]
end OE
end
section
/-! THE FIRST STATE's calls: lanes, digging, images, the law of an empty tape (written by wip/p1/30.opsf.py) -/
section OF
variable {L : Nat} {xs : Nat → Int} {d : Nat} {v : Nat → Nat → Int} {a b c x y z : Int}
theorem c_arePlaces (h1 : 0 ≤ v 11 0) (h2 : v 11 0 ≤ 30) (y : Int) (hy : y < 2147483648) : qE L xs (d + 4) nX11_arePlaces [(2, 0), (0, y)] (qS v) = some (some (0, zb (0 ≤ y ∧ y / 100 < 2 * v 11 0 ∧ y % 100 < 2 * v 11 0)), qS v) := by
  by_cases h0 : 0 ≤ y
  · simp (disch := omega) only [e_X11_arePlaces, b_X11_arePlaces_0, b_X11_arePlaces_4, b_X11_arePlaces_15, b_X11_arePlaces_18, b_X11_arePlaces_29, b_X11_arePlaces_32, b_X11_arePlaces_36, b_X11_arePlaces_37, c_hasPlace, zb_0, td_pos, tm_pos, w32_id, if_neg, qB_some, psh_some, psh_none, and_true, true_and, and_false, false_and, and_self, or_true, true_or, or_false, false_or, not_true_eq_false, not_false_eq_true, ↓reduceIte, Int.reduceEq, Int.reduceLT, Int.reduceLE, Int.reduceToNat, Nat.reduceEqDiff, Nat.reduceAdd]
    by_cases h3 : 0 ≤ y / 100 ∧ y / 100 < 2 * v 11 0
    · rw [if_pos h3]
      by_cases h4 : 0 ≤ y % 100 ∧ y % 100 < 2 * v 11 0
      · rw [if_pos h4, zb_t (by omega)]
      · rw [if_neg h4, zb_f (by omega)]
    · rw [if_neg h3, zb_f (by omega)]
  · simp (disch := omega) only [e_X11_arePlaces, b_X11_arePlaces_0, b_X11_arePlaces_4, b_X11_arePlaces_15, b_X11_arePlaces_18, b_X11_arePlaces_29, b_X11_arePlaces_32, b_X11_arePlaces_36, b_X11_arePlaces_37, if_pos, zb_f, qB_some, psh_some, psh_none, and_true, true_and, and_false, false_and, and_self, or_true, true_or, or_false, false_or, not_true_eq_false, not_false_eq_true, ↓reduceIte, Int.reduceEq, Int.reduceLT, Int.reduceLE, Int.reduceToNat, Nat.reduceEqDiff, Nat.reduceAdd]
theorem c_areYards (h1 : 0 ≤ v 11 0) (h2 : v 11 0 ≤ 30) (y : Int) (hy : y < 2147483648) : qE L xs (d + 4) nX11_areYards [(2, 0), (0, y)] (qS v) = some (some (0, zb (0 ≤ y ∧ y / 100 < v 11 0 ∧ y % 100 < v 11 0)), qS v) := by
  by_cases h0 : 0 ≤ y
  · simp (disch := omega) only [e_X11_areYards, b_X11_areYards_0, b_X11_areYards_4, b_X11_areYards_15, b_X11_areYards_18, b_X11_areYards_29, b_X11_areYards_32, b_X11_areYards_36, b_X11_areYards_37, c_hasYard, zb_0, td_pos, tm_pos, w32_id, if_neg, qB_some, psh_some, psh_none, and_true, true_and, and_false, false_and, and_self, or_true, true_or, or_false, false_or, not_true_eq_false, not_false_eq_true, ↓reduceIte, Int.reduceEq, Int.reduceLT, Int.reduceLE, Int.reduceToNat, Nat.reduceEqDiff, Nat.reduceAdd]
    by_cases h3 : 0 ≤ y / 100 ∧ y / 100 < v 11 0
    · rw [if_pos h3]
      by_cases h4 : 0 ≤ y % 100 ∧ y % 100 < v 11 0
      · rw [if_pos h4, zb_t (by omega)]
      · rw [if_neg h4, zb_f (by omega)]
    · rw [if_neg h3, zb_f (by omega)]
  · simp (disch := omega) only [e_X11_areYards, b_X11_areYards_0, b_X11_areYards_4, b_X11_areYards_15, b_X11_areYards_18, b_X11_areYards_29, b_X11_areYards_32, b_X11_areYards_36, b_X11_areYards_37, if_pos, zb_f, qB_some, psh_some, psh_none, and_true, true_and, and_false, false_and, and_self, or_true, true_or, or_false, false_or, not_true_eq_false, not_false_eq_true, ↓reduceIte, Int.reduceEq, Int.reduceLT, Int.reduceLE, Int.reduceToNat, Nat.reduceEqDiff, Nat.reduceAdd]
theorem m_isAb (h1 : 0 ≤ v 64 140) (h2 : v 64 140 ≤ 30) (y : Int) (hy : y < 2147483648) : qE L xs (d + 4) nX12_isAb [(2, 63), (0, y)] (qS v) = some (some (0, zb (0 ≤ y ∧ y / 100 < 2 * v 64 140 ∧ y % 100 < 2 * v 64 140)), qS v) := by
  by_cases h0 : 0 ≤ y
  · simp (disch := omega) only [e_X12_isAb, b_X12_isAb_0, b_X12_isAb_4, b_X12_isAb_13, b_X12_isAb_16, b_X12_isAb_25, b_X12_isAb_28, b_X12_isAb_32, b_X12_isAb_33, c_isPlace, zb_0, td_pos, tm_pos, w32_id, if_neg, qB_some, psh_some, psh_none, and_true, true_and, and_false, false_and, and_self, or_true, true_or, or_false, false_or, not_true_eq_false, not_false_eq_true, ↓reduceIte, Int.reduceEq, Int.reduceLT, Int.reduceLE, Int.reduceToNat, Nat.reduceEqDiff, Nat.reduceAdd]
    by_cases h3 : 0 ≤ y / 100 ∧ y / 100 < 2 * v 64 140
    · rw [if_pos h3]
      by_cases h4 : 0 ≤ y % 100 ∧ y % 100 < 2 * v 64 140
      · rw [if_pos h4, zb_t (by omega)]
      · rw [if_neg h4, zb_f (by omega)]
    · rw [if_neg h3, zb_f (by omega)]
  · simp (disch := omega) only [e_X12_isAb, b_X12_isAb_0, b_X12_isAb_4, b_X12_isAb_13, b_X12_isAb_16, b_X12_isAb_25, b_X12_isAb_28, b_X12_isAb_32, b_X12_isAb_33, if_pos, zb_f, qB_some, psh_some, psh_none, and_true, true_and, and_false, false_and, and_self, or_true, true_or, or_false, false_or, not_true_eq_false, not_false_eq_true, ↓reduceIte, Int.reduceEq, Int.reduceLT, Int.reduceLE, Int.reduceToNat, Nat.reduceEqDiff, Nat.reduceAdd]
theorem m_areYards (h1 : 0 ≤ v 64 140) (h2 : v 64 140 ≤ 30) (y : Int) (hy : y < 2147483648) : qE L xs (d + 4) nX12_areYards [(2, 63), (0, y)] (qS v) = some (some (0, zb (0 ≤ y ∧ y / 100 < v 64 140 ∧ y % 100 < v 64 140)), qS v) := by
  by_cases h0 : 0 ≤ y
  · simp (disch := omega) only [e_X12_areYards, b_X12_areYards_0, b_X12_areYards_4, b_X12_areYards_13, b_X12_areYards_16, b_X12_areYards_25, b_X12_areYards_28, b_X12_areYards_32, b_X12_areYards_33, c_isYard, zb_0, td_pos, tm_pos, w32_id, if_neg, qB_some, psh_some, psh_none, and_true, true_and, and_false, false_and, and_self, or_true, true_or, or_false, false_or, not_true_eq_false, not_false_eq_true, ↓reduceIte, Int.reduceEq, Int.reduceLT, Int.reduceLE, Int.reduceToNat, Nat.reduceEqDiff, Nat.reduceAdd]
    by_cases h3 : 0 ≤ y / 100 ∧ y / 100 < v 64 140
    · rw [if_pos h3]
      by_cases h4 : 0 ≤ y % 100 ∧ y % 100 < v 64 140
      · rw [if_pos h4, zb_t (by omega)]
      · rw [if_neg h4, zb_f (by omega)]
    · rw [if_neg h3, zb_f (by omega)]
  · simp (disch := omega) only [e_X12_areYards, b_X12_areYards_0, b_X12_areYards_4, b_X12_areYards_13, b_X12_areYards_16, b_X12_areYards_25, b_X12_areYards_28, b_X12_areYards_32, b_X12_areYards_33, if_pos, zb_f, qB_some, psh_some, psh_none, and_true, true_and, and_false, false_and, and_self, or_true, true_or, or_false, false_or, not_true_eq_false, not_false_eq_true, ↓reduceIte, Int.reduceEq, Int.reduceLT, Int.reduceLE, Int.reduceToNat, Nat.reduceEqDiff, Nat.reduceAdd]
theorem c_become44 : qE L xs (d + 1) nX2_become [(2, 44), (2, 41)] (qS v) = some (none, qS (pm_cpy v 42 45 0 0 36)) := by
  rw [e_X2_become_44_41, b_X2_become_44_41_0]
  refine (qG_cpy (s := 42) (t := 45) (e := 0) (ns := 36) (nt := 36) rfl rfl rfl rfl (Or.inl rfl) (by omega) (by omega) (by omega) (by omega) (by omega) rfl (nr_of rfl) (nr_of rfl)).trans ?_
  exact b_X2_become_44_41_18
theorem qG_alen {C : pm_C} {pc c e n : Nat} {ls st : List pm_V} {x : pm_A} (hf : pm_fetch C pc = some (.arraylength, x)) (hc : c < 1000) (hs : pm_get SH c = some (1, e, n)) : qG L xs d C pc ls ((2, .ofNat c) :: st) (qS v) = qG L xs d C (pc + 1) ls ((0, (n : Int)) :: st) (qS v) := qG_1n hf (by
  show pm_alen (pm_X0 L xs) pc ls ((2, .ofNat c) :: st) (qS v) = _
  exact pm_alen_own hc hs)
theorem c_write {c : Nat} (hc : c = 25 ∨ c = 26) (h2 : v 23 2 = .ofNat c) (h0 : 0 ≤ v 23 6) (h6 : v 23 6 < 121) (z : Int) : qE L xs (d + 1) nX5_write [(2, 23), (0, z)] (qS v) = some (none, qS (pm_up (pm_up v c (v 23 6).toNat z) 23 6 (v 23 6 + 1))) := by
  have hs : pm_get SH c = some (1, 0, 121) := by rcases hc with rfl | rfl <;> rfl
  have hr : ∀ k, refAt c k = none := by rcases hc with rfl | rfl <;> exact nr_of rfl
  rw [e_X5_write, b_X5_write_0, h2]
  refine (qG_alen rfl (by omega) hs).trans ?_
  show qG L xs d CX5_write 9 [(2, 23), (0, z)] [(0, 121), (0, v 23 6)] (qS v) = _
  rw [b_X5_write_9, if_pos h6, b_X5_write_12, h2]
  refine (qG_ast2 (Or.inl ⟨rfl, rfl⟩) rfl hs h0 (by omega) (hr _)).trans ?_
  show qG L xs d CX5_write 22 _ _ _ = _
  rw [b_X5_write_22, b_X5_write_32, up_ne (by omega), w32_id (by omega) (by omega)]
end OF
end
section
/-! PACE and MEET -/
section PA
variable {L : Nat} {xs : Nat → Int} {d : Nat} {v : Nat → Nat → Int} {a b c x y z : Int}
def tri (Y t : Int) : Int := if Y - 1 < t % (2 * (Y - 1)) then 2 * (Y - 1) - t % (2 * (Y - 1)) else t % (2 * (Y - 1))
theorem c_turningAt (h1 : 2 ≤ v 11 0) (h2 : v 11 0 ≤ 30) (t : Int) (ht : 0 ≤ t) : qE L xs (d + 2) nX11_turningAt [(2, 0), (0, t)] (qS v) = some (some (0, tri (v 11 0) t), qS v) := by
  have r1 := Int.emod_nonneg t (show 2 * (v 11 0 - 1) ≠ 0 by omega)
  have r2 := Int.emod_lt_of_pos t (show 0 < 2 * (v 11 0 - 1) by omega)
  unfold tri
  by_cases h : v 11 0 - 1 < t % (2 * (v 11 0 - 1))
  · simp (disch := omega) only [e_X11_turningAt, b_X11_turningAt_0, b_X11_turningAt_7, b_X11_turningAt_14, b_X11_turningAt_19, b_X11_turningAt_22, b_X11_turningAt_23, b_X11_turningAt_29, b_X11_turningAt_33, b_X11_turningAt_38, c_yardsNow, w32_id, if_pos, if_neg, tm_pos, qB_some, psh_some, psh_none, and_true, true_and, and_false, false_and, and_self, or_true, true_or, or_false, false_or, not_true_eq_false, not_false_eq_true, ↓reduceIte, Int.reduceEq, Int.reduceLT, Int.reduceLE, Int.reduceToNat, Nat.reduceEqDiff, Nat.reduceAdd]
  · simp (disch := omega) only [e_X11_turningAt, b_X11_turningAt_0, b_X11_turningAt_7, b_X11_turningAt_14, b_X11_turningAt_19, b_X11_turningAt_22, b_X11_turningAt_23, b_X11_turningAt_29, b_X11_turningAt_33, b_X11_turningAt_38, c_yardsNow, w32_id, if_pos, if_neg, tm_pos, qB_some, psh_some, psh_none, and_true, true_and, and_false, false_and, and_self, or_true, true_or, or_false, false_or, not_true_eq_false, not_false_eq_true, ↓reduceIte, Int.reduceEq, Int.reduceLT, Int.reduceLE, Int.reduceToNat, Nat.reduceEqDiff, Nat.reduceAdd]
theorem c_up (h1 : 2 ≤ v 11 0) (h2 : v 11 0 ≤ 30) (a i : Int) (ha : 0 ≤ a) (ha2 : a < 30) (hi : 0 ≤ i) (hi2 : i < 10000) : qE L xs (d + 3) nX11_upwardAt [(2, 0), (0, a), (0, i)] (qS v) = some (some (0, tri (v 11 0) (a + i)), qS v) := by
  simp (disch := omega) only [e_X11_upwardAt, b_X11_upwardAt_0, b_X11_upwardAt_7, w32_id, c_turningAt, qB_some, psh_some, psh_none, and_true, true_and, and_false, false_and, and_self, or_true, true_or, or_false, false_or, not_true_eq_false, not_false_eq_true, ↓reduceIte, Int.reduceEq, Int.reduceLT, Int.reduceLE, Int.reduceToNat, Nat.reduceEqDiff, Nat.reduceAdd]
theorem c_down (h1 : 2 ≤ v 11 0) (h2 : v 11 0 ≤ 30) (b i : Int) (hb : 0 ≤ b) (hb2 : b < v 11 0) (hi : 0 ≤ i) (hi2 : i < 10000) : qE L xs (d + 3) nX11_downwardAt [(2, 0), (0, b), (0, i)] (qS v) = some (some (0, tri (v 11 0) (2 * (v 11 0 - 1) - b + i)), qS v) := by
  simp (disch := omega) only [e_X11_downwardAt, b_X11_downwardAt_0, b_X11_downwardAt_9, b_X11_downwardAt_19, c_yardsNow, w32_id, c_turningAt, qB_some, psh_some, psh_none, and_true, true_and, and_false, false_and, and_self, or_true, true_or, or_false, false_or, not_true_eq_false, not_false_eq_true, ↓reduceIte, Int.reduceEq, Int.reduceLT, Int.reduceLE, Int.reduceToNat, Nat.reduceEqDiff, Nat.reduceAdd]
theorem m_up (h1 : 2 ≤ v 64 140) (h2 : v 64 140 ≤ 30) (a i : Int) (ha : 0 ≤ a) (ha2 : a < 30) (hi : 0 ≤ i) (hi2 : i < 10000) : qE L xs (d + 2) nX12_pacing [(2, 63), (0, a), (0, 1), (0, i)] (qS v) = some (some (0, tri (v 64 140) (a + i)), qS v) := by
  have r1 := Int.emod_nonneg (a + i) (show 2 * (v 64 140 - 1) ≠ 0 by omega)
  have r2 := Int.emod_lt_of_pos (a + i) (show 0 < 2 * (v 64 140 - 1) by omega)
  unfold tri
  by_cases h : v 64 140 - 1 < (a + i) % (2 * (v 64 140 - 1))
  · simp (disch := omega) only [e_X12_pacing, b_X12_pacing_0, b_X12_pacing_4, b_X12_pacing_13, b_X12_pacing_17, b_X12_pacing_23, b_X12_pacing_34, b_X12_pacing_43, b_X12_pacing_48, b_X12_pacing_55, c_yardMany, w32_id, if_pos, if_neg, tm_pos, qB_some, psh_some, psh_none, and_true, true_and, and_false, false_and, and_self, or_true, true_or, or_false, false_or, not_true_eq_false, not_false_eq_true, ↓reduceIte, Int.reduceEq, Int.reduceLT, Int.reduceLE, Int.reduceToNat, Nat.reduceEqDiff, Nat.reduceAdd]
  · simp (disch := omega) only [e_X12_pacing, b_X12_pacing_0, b_X12_pacing_4, b_X12_pacing_13, b_X12_pacing_17, b_X12_pacing_23, b_X12_pacing_34, b_X12_pacing_43, b_X12_pacing_48, b_X12_pacing_55, c_yardMany, w32_id, if_pos, if_neg, tm_pos, qB_some, psh_some, psh_none, and_true, true_and, and_false, false_and, and_self, or_true, true_or, or_false, false_or, not_true_eq_false, not_false_eq_true, ↓reduceIte, Int.reduceEq, Int.reduceLT, Int.reduceLE, Int.reduceToNat, Nat.reduceEqDiff, Nat.reduceAdd]
theorem m_down (h1 : 2 ≤ v 64 140) (h2 : v 64 140 ≤ 30) (b i : Int) (hb : 0 ≤ b) (hb2 : b < v 64 140) (hi : 0 ≤ i) (hi2 : i < 10000) : qE L xs (d + 2) nX12_pacing [(2, 63), (0, b), (0, 0), (0, i)] (qS v) = some (some (0, tri (v 64 140) (2 * (v 64 140 - 1) - b + i)), qS v) := by
  have r1 := Int.emod_nonneg (2 * (v 64 140 - 1) - b + i) (show 2 * (v 64 140 - 1) ≠ 0 by omega)
  have r2 := Int.emod_lt_of_pos (2 * (v 64 140 - 1) - b + i) (show 0 < 2 * (v 64 140 - 1) by omega)
  unfold tri
  by_cases h : v 64 140 - 1 < (2 * (v 64 140 - 1) - b + i) % (2 * (v 64 140 - 1))
  · simp (disch := omega) only [e_X12_pacing, b_X12_pacing_0, b_X12_pacing_4, b_X12_pacing_13, b_X12_pacing_17, b_X12_pacing_23, b_X12_pacing_34, b_X12_pacing_43, b_X12_pacing_48, b_X12_pacing_55, c_yardMany, w32_id, if_pos, if_neg, tm_pos, qB_some, psh_some, psh_none, and_true, true_and, and_false, false_and, and_self, or_true, true_or, or_false, false_or, not_true_eq_false, not_false_eq_true, ↓reduceIte, Int.reduceEq, Int.reduceLT, Int.reduceLE, Int.reduceToNat, Nat.reduceEqDiff, Nat.reduceAdd]
  · simp (disch := omega) only [e_X12_pacing, b_X12_pacing_0, b_X12_pacing_4, b_X12_pacing_13, b_X12_pacing_17, b_X12_pacing_23, b_X12_pacing_34, b_X12_pacing_43, b_X12_pacing_48, b_X12_pacing_55, c_yardMany, w32_id, if_pos, if_neg, tm_pos, qB_some, psh_some, psh_none, and_true, true_and, and_false, false_and, and_self, or_true, true_or, or_false, false_or, not_true_eq_false, not_false_eq_true, ↓reduceIte, Int.reduceEq, Int.reduceLT, Int.reduceLE, Int.reduceToNat, Nat.reduceEqDiff, Nat.reduceAdd]
/-- how often they have met in the first j minutes, and when first -/
def pcN (Y a b : Int) : Nat → Int × Int
  | 0 => (0, -2)
  | j + 1 => if tri Y (a + j) = tri Y (2 * (Y - 1) - b + j) then ((pcN Y a b j).1 + 1, if (pcN Y a b j).1 = 0 then (j : Int) else (pcN Y a b j).2) else pcN Y a b j
theorem pcN_le (Y a b : Int) : ∀ j : Nat, 0 ≤ (pcN Y a b j).1 ∧ (pcN Y a b j).1 ≤ j
  | 0 => ⟨by show (0 : Int) ≤ 0; omega, by show (0 : Int) ≤ ((0 : Nat) : Int); omega⟩
  | j + 1 => by
    have h := pcN_le Y a b j
    unfold pcN
    split
    · dsimp only
      omega
    · omega
theorem lp_pace (h1 : 2 ≤ v 11 0) (h2 : v 11 0 ≤ 30) (q m k : Int) (hq : 0 ≤ q) (hq1 : q / 100 < v 11 0) (hq2 : q % 100 < v 11 0) (hq3 : q < 2147483648) (hm : m ≤ 999) : ∀ (n j : Nat), (j : Int) + n = m + 1 → qG L xs (d + 3) CX11_pace 40 [(2, 0), (0, q), (0, m), (0, k), (0, (pcN (v 11 0) (q / 100) (q % 100) j).1), (0, (pcN (v 11 0) (q / 100) (q % 100) j).2), (0, (j : Int))] [] (qS v) = qG L xs (d + 3) CX11_pace 92 [(2, 0), (0, q), (0, m), (0, k), (0, (pcN (v 11 0) (q / 100) (q % 100) (j + n)).1), (0, (pcN (v 11 0) (q / 100) (q % 100) (j + n)).2), (0, m + 1)] [] (qS v)
  | 0, j, hj => by
    rw [b_X11_pace_40, if_pos (by omega), show m + 1 = (j : Int) by omega]
    rfl
  | n + 1, j, hj => by
    have hp := pcN_le (v 11 0) (q / 100) (q % 100) j
    have h3 := lp_pace h1 h2 q m k hq hq1 hq2 hq3 hm n (j + 1) (by omega)
    rw [show ((j + 1 : Nat) : Int) = (j : Int) + 1 by omega, show j + 1 + n = j + (n + 1) by omega] at h3
    refine Eq.trans ?_ h3
    rw [pcN]
    by_cases he : tri (v 11 0) (q / 100 + j) = tri (v 11 0) (2 * (v 11 0 - 1) - q % 100 + j)
    · rw [if_pos he]
      dsimp only
      by_cases hz : (pcN (v 11 0) (q / 100) (q % 100) j).1 = 0
      · rw [if_pos hz]
        conv => lhs; simp (disch := omega) only [b_X11_pace_40, b_X11_pace_46, b_X11_pace_56, b_X11_pace_66, b_X11_pace_69, b_X11_pace_74, b_X11_pace_81, td_pos, tm_pos, w32_id, c_up, c_down, if_pos he, if_pos hz, if_neg, qB_some, psh_some, psh_none, and_true, true_and, and_false, false_and, and_self, or_true, true_or, or_false, false_or, not_true_eq_false, not_false_eq_true, ↓reduceIte, Int.reduceEq, Int.reduceLT, Int.reduceLE, Int.reduceToNat, Nat.reduceEqDiff, Nat.reduceAdd]
        rw [b_X11_pace_86, w32_id (by omega) (by omega)]
      · rw [if_neg hz]
        conv => lhs; simp (disch := omega) only [b_X11_pace_40, b_X11_pace_46, b_X11_pace_56, b_X11_pace_66, b_X11_pace_69, b_X11_pace_79, b_X11_pace_81, td_pos, tm_pos, w32_id, c_up, c_down, if_pos he, if_neg hz, if_neg, qB_some, psh_some, psh_none, and_true, true_and, and_false, false_and, and_self, or_true, true_or, or_false, false_or, not_true_eq_false, not_false_eq_true, ↓reduceIte, Int.reduceEq, Int.reduceLT, Int.reduceLE, Int.reduceToNat, Nat.reduceEqDiff, Nat.reduceAdd]
        rw [b_X11_pace_86, w32_id (by omega) (by omega)]
    · rw [if_neg he]
      conv => lhs; simp (disch := omega) only [b_X11_pace_40, b_X11_pace_46, b_X11_pace_56, b_X11_pace_66, td_pos, tm_pos, w32_id, c_up, c_down, if_neg he, if_neg, qB_some, psh_some, psh_none, and_true, true_and, and_false, false_and, and_self, or_true, true_or, or_false, false_or, not_true_eq_false, not_false_eq_true, ↓reduceIte, Int.reduceEq, Int.reduceLT, Int.reduceLE, Int.reduceToNat, Nat.reduceEqDiff, Nat.reduceAdd]
      rw [b_X11_pace_86, w32_id (by omega) (by omega)]
theorem lp_mpace (h1 : 2 ≤ v 64 140) (h2 : v 64 140 ≤ 30) (q m k : Int) (hq : 0 ≤ q) (hq1 : q / 100 < v 64 140) (hq2 : q % 100 < v 64 140) (hq3 : q < 2147483648) (hm : m ≤ 999) : ∀ (n j : Nat), (j : Int) + n = m + 1 → qG L xs (d + 2) CX12_pace 42 [(2, 63), (0, q), (0, m), (0, k), (0, (pcN (v 64 140) (q / 100) (q % 100) j).1), (0, (pcN (v 64 140) (q / 100) (q % 100) j).2), (0, (j : Int))] [] (qS v) = qG L xs (d + 2) CX12_pace 96 [(2, 63), (0, q), (0, m), (0, k), (0, (pcN (v 64 140) (q / 100) (q % 100) (j + n)).1), (0, (pcN (v 64 140) (q / 100) (q % 100) (j + n)).2), (0, m + 1)] [] (qS v)
  | 0, j, hj => by
    rw [b_X12_pace_42, if_pos (by omega), show m + 1 = (j : Int) by omega]
    rfl
  | n + 1, j, hj => by
    have hp := pcN_le (v 64 140) (q / 100) (q % 100) j
    have h3 := lp_mpace h1 h2 q m k hq hq1 hq2 hq3 hm n (j + 1) (by omega)
    rw [show ((j + 1 : Nat) : Int) = (j : Int) + 1 by omega, show j + 1 + n = j + (n + 1) by omega] at h3
    refine Eq.trans ?_ h3
    rw [pcN]
    by_cases he : tri (v 64 140) (q / 100 + j) = tri (v 64 140) (2 * (v 64 140 - 1) - q % 100 + j)
    · rw [if_pos he]
      dsimp only
      by_cases hz : (pcN (v 64 140) (q / 100) (q % 100) j).1 = 0
      · rw [if_pos hz]
        conv => lhs; simp (disch := omega) only [b_X12_pace_42, b_X12_pace_48, b_X12_pace_59, b_X12_pace_70, b_X12_pace_73, b_X12_pace_78, b_X12_pace_85, td_pos, tm_pos, w32_id, m_up, m_down, if_pos he, if_pos hz, if_neg, qB_some, psh_some, psh_none, and_true, true_and, and_false, false_and, and_self, or_true, true_or, or_false, false_or, not_true_eq_false, not_false_eq_true, ↓reduceIte, Int.reduceEq, Int.reduceLT, Int.reduceLE, Int.reduceToNat, Nat.reduceEqDiff, Nat.reduceAdd]
        rw [b_X12_pace_90, w32_id (by omega) (by omega)]
      · rw [if_neg hz]
        conv => lhs; simp (disch := omega) only [b_X12_pace_42, b_X12_pace_48, b_X12_pace_59, b_X12_pace_70, b_X12_pace_73, b_X12_pace_83, b_X12_pace_85, td_pos, tm_pos, w32_id, m_up, m_down, if_pos he, if_neg hz, if_neg, qB_some, psh_some, psh_none, and_true, true_and, and_false, false_and, and_self, or_true, true_or, or_false, false_or, not_true_eq_false, not_false_eq_true, ↓reduceIte, Int.reduceEq, Int.reduceLT, Int.reduceLE, Int.reduceToNat, Nat.reduceEqDiff, Nat.reduceAdd]
        rw [b_X12_pace_90, w32_id (by omega) (by omega)]
    · rw [if_neg he]
      conv => lhs; simp (disch := omega) only [b_X12_pace_42, b_X12_pace_48, b_X12_pace_59, b_X12_pace_70, td_pos, tm_pos, w32_id, m_up, m_down, if_neg he, if_neg, qB_some, psh_some, psh_none, and_true, true_and, and_false, false_and, and_self, or_true, true_or, or_false, false_or, not_true_eq_false, not_false_eq_true, ↓reduceIte, Int.reduceEq, Int.reduceLT, Int.reduceLE, Int.reduceToNat, Nat.reduceEqDiff, Nat.reduceAdd]
      rw [b_X12_pace_90, w32_id (by omega) (by omega)]
end PA
end
section
/-! THE FIRST STATE's calls: meeting, taxes -/
section TX
variable {L : Nat} {xs : Nat → Int} {d : Nat} {v : Nat → Nat → Int} {a b c x y z : Int}
theorem m_warmOf (h1 : 0 ≤ y) (h2 : y < 30) : qE L xs (d + 1) nX12_warmOf [(2, 63), (0, y)] (qS v) = some (some (0, v 64 (30 + y).toNat), qS v) := by
  simp (disch := omega) only [e_X12_warmOf, b_X12_warmOf_0, b_X12_warmOf_9, w32_id, if_pos, qB_some, psh_some, psh_none, and_true, true_and, and_false, false_and, and_self, or_true, true_or, or_false, false_or, not_true_eq_false, not_false_eq_true, ↓reduceIte, Int.reduceEq, Int.reduceLT, Int.reduceLE, Int.reduceToNat, Nat.reduceEqDiff, Nat.reduceAdd]
theorem m_thickOf (h1 : 0 ≤ y) (h2 : y < 30) : qE L xs (d + 1) nX12_thickOf [(2, 63), (0, y)] (qS v) = some (some (0, v 64 y.toNat), qS v) := by
  simp (disch := omega) only [e_X12_thickOf, b_X12_thickOf_0, b_X12_thickOf_6, w32_id, if_pos, qB_some, psh_some, psh_none, and_true, true_and, and_false, false_and, and_self, or_true, true_or, or_false, false_or, not_true_eq_false, not_false_eq_true, ↓reduceIte, Int.reduceEq, Int.reduceLT, Int.reduceLE, Int.reduceToNat, Nat.reduceEqDiff, Nat.reduceAdd]
end TX
end
section
/-! THE FIRST STATE's calls: the nights of frost (all yards alike) -/
section FO
variable {L : Nat} {xs : Nat → Int} {d : Nat} {v u : Nat → Nat → Int} {w x : Nat} {c : Int}
abbrev FrW (w x : Nat) : Prop := (w = 39 ∧ x = 40) ∨ (w = 40 ∧ x = 39)
theorem fr_sh (h : FrW w x) : pm_get SH w = some (1, 0, 30) ∧ (∀ k, refAt w k = none) ∧ w < 1000 := by
  rcases h with ⟨rfl, rfl⟩ | ⟨rfl, rfl⟩
  · exact ⟨rfl, nr_of rfl, by decide⟩
  · exact ⟨rfl, nr_of rfl, by decide⟩
theorem FrW_sym (h : FrW w x) : FrW x w := by
  rcases h with ⟨rfl, rfl⟩ | ⟨rfl, rfl⟩
  · exact Or.inr ⟨rfl, rfl⟩
  · exact Or.inl ⟨rfl, rfl⟩
end FO
end
