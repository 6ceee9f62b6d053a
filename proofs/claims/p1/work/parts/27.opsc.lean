/-! THE FIRST STATE's calls: shelves filled, owners, images -/
section OC
variable {L : Nat} {xs : Nat → Int} {d : Nat} {v : Nat → Nat → Int} {C : pm_C} {pc : Nat} {ls st : List pm_V} {a b c x y z : Int}
theorem qG_cpy {i : Nat} {x : pm_A} {s t e ns nt : Nat} {sp tp n : Int} (hf : pm_fetch C pc = some (.invokestatic i, x)) (hx : x.2.2.1 = 1) (hs : pm_get SH s = some (1, e, ns)) (ht : pm_get SH t = some (1, e, nt)) (he : e = 0 ∨ e = 1) (h1 : 0 ≤ sp) (h2 : 0 ≤ tp) (h3 : 0 ≤ n) (h4 : sp + n ≤ (ns : Int)) (h5 : tp + n ≤ (nt : Int)) (hst : pm_fit 4 st = true) (rs : ∀ k, refAt s k = none) (rt : ∀ k, refAt t k = none) :
    qG L xs d C pc ls ((0, n) :: (0, tp) :: (2, .ofNat t) :: (0, sp) :: (2, .ofNat s) :: st) (qS v) = qG L xs d C (pc + 3) ls st (qS (pm_cpy v s t sp.toNat tp.toNat n.toNat)) := by
  refine qG_1n hf ?_
  obtain ⟨x1, x2, x3, x4⟩ := x
  subst hx
  show (match pm_get (qS v).1 s, pm_get (qS v).1 t, pm_fit 4 st with
    | some (1, e, ns), some (1, e', nd), true => if (e = 0 ∨ e = 1) ∧ e' = e then (if 0 ≤ sp ∧ 0 ≤ tp ∧ 0 ≤ n ∧ sp + n ≤ (ns : Int) ∧ tp + n ≤ (nd : Int) then pm_nx (pc + 3) ls st ((qS v).1, pm_cpy (qS v).2 s t sp.toNat tp.toNat n.toNat) else none) else none
    | _, _, _ => none) = _
  rw [show pm_get (qS v).1 s = some (1, e, ns) from hs, show pm_get (qS v).1 t = some (1, e, nt) from ht, hst]
  refine (if_pos ⟨he, rfl⟩).trans ((if_pos ⟨h1, h2, h3, h4, h5⟩).trans ?_)
  show pm_nx (pc + 3) ls st (SH, pm_cpy (mm v) s t sp.toNat tp.toNat n.toNat) = _
  rw [mm_cpy rs rt]
  rfl
theorem nr_of {c : Nat} (h : pm_get pm_refs c = some []) (k : Nat) : refAt c k = none := by
  unfold refAt
  rw [h]
  rfl
theorem sh_ref {k : Int} (h0 : 0 ≤ k) (hn : k < 6) : refAt 56 k.toNat = some (.ofNat (57 + k.toNat)) := (by decide : ∀ j, j < 6 → refAt 56 j = some (.ofNat (57 + j))) k.toNat (by omega)
theorem sh_get {k : Int} (h0 : 0 ≤ k) (hn : k < 6) : pm_get SH (57 + k.toNat) = some (1, 1, 60) := (by decide : ∀ j, j < 6 → pm_get SH (57 + j) = some (1, 1, 60)) k.toNat (by omega)
theorem sh_nr {k : Int} (h0 : 0 ≤ k) (hn : k < 6) (i : Nat) : refAt (57 + k.toNat) i = none := nr_of ((by decide : ∀ j, j < 6 → pm_get pm_refs (57 + j) = some []) k.toNat (by omega)) i
theorem mm_fl {c lo hi : Nat} {z : Int} (h : ∀ k, refAt c k = none) : pm_fl (mm v) c lo hi z = mm (pm_fl v c lo hi z) := by
  funext a i
  show (if a = c ∧ lo ≤ i ∧ i < hi then z else mm v a i) = (match refAt a i with
    | some z => z
    | none => if a = c ∧ lo ≤ i ∧ i < hi then z else v a i)
  by_cases hc : a = c ∧ lo ≤ i ∧ i < hi
  · rw [if_pos hc, if_pos hc, hc.1, h]
  · rw [if_neg hc, if_neg hc]
    rfl
/-- fills, over the steady heap -/
theorem q_fill {c n : Nat} {z : Int} (hc : c < 1000) (hs : pm_get SH c = some (1, 0, n)) (hn : n < 2147483648) (hr : ∀ k, refAt c k = none) : qE L xs (d + 1) nJ7_fill_53178 [(2, .ofNat c), (0, z)] (qS v) = some (none, qS (pm_fl v c 0 n z)) := by
  refine (fi_all hc hs hn).trans ?_
  rw [mm_fl hr]
  rfl
theorem q_fillL {c n : Nat} {z : Int} (hc : c < 1000) (hs : pm_get SH c = some (1, 1, n)) (hn : n < 2147483648) (hr : ∀ k, refAt c k = none) : qE L xs (d + 1) nJ7_fill_d0a16 [(2, .ofNat c), (1, z)] (qS v) = some (none, qS (pm_fl v c 0 n z)) := by
  refine (fj_all hc hs hn).trans ?_
  rw [mm_fl hr]
  rfl
theorem b_X8_holdRow_35 (x1 x2 x3 : Int) (h0 : 0 ≤ x1) (h1 : x1 < 6) : qG L xs (d + 1) CX8_holdRow 35 [(2, 52), (0, x1), (0, x2), (0, x3)] [(0, x1), (2, 56)] (qS v) = some (none, qS (pm_fl v (57 + x1.toNat) 0 60 0)) := by
  refine (qG_aald (c := 56) (e := 5) (n := 6) (t := 57 + x1.toNat) rfl rfl (Or.inr rfl) h0 h1 (sh_ref h0 h1)).trans ?_
  rw [b_X8_holdRow_36, q_fillL (by omega) (sh_get h0 h1) (by decide) (sh_nr h0 h1), qB_some, psh_none, b_X8_holdRow_40]
theorem c_holdRow (x1 x2 x3 : Int) (h0 : 0 ≤ x1) (h1 : x1 < 6) : qE L xs (d + 2) nX8_holdRow [(2, 52), (0, x1), (0, x2), (0, x3)] (qS v) = some (none, qS (pm_fl (pm_up (pm_up v 53 x1.toNat x2) 55 x1.toNat (pm_max 0 (pm_min x3 60))) (57 + x1.toNat) 0 60 0)) := by
  have h2 : 0 ≤ x1 ∧ x1 < 6 := ⟨h0, h1⟩
  rw [e_X8_holdRow, b_X8_holdRow_0, cs_has, qB_some, psh_some, b_X8_holdRow_4, zb_0, if_pos h2, b_X8_holdRow_7, if_pos h2, b_X8_holdRow_14, if_pos h2, b_X8_holdRow_30, b_X8_holdRow_35 _ _ _ h0 h1]
theorem M0_fl {c lo hi : Nat} {x : Int} (h : M0 v) (hc : c < 63) : M0 (pm_fl v c lo hi x) := M0_fr h (fun a i ha => if_neg (by omega))
theorem M0_cpy {s t sp tp n : Nat} (h : M0 v) (hc : t < 63) : M0 (pm_cpy v s t sp tp n) := M0_fr h (fun a i ha => if_neg (by omega))
theorem lp_row (x1 x2 x3 : Int) (h0 : 0 ≤ x1) (h1 : x1 < 6) : ∀ (n j : Nat) (v : Nat → Nat → Int), (j : Int) + n = 60 * x1 + 60 → qG L xs d CX12_row 57 [(2, 63), (0, x1), (0, x2), (0, x3), (0, (j : Int))] [] (qS v) = some (some (0, 1), qS (pm_fl v 88 j (j + n) 0))
  | 0, j, v, hj => by
    simp (disch := omega) only [b_X12_row_57, w32_id, if_neg, b_X12_row_83]
    have : pm_fl v 88 j (j + 0) 0 = v := by
      funext a i
      exact if_neg (by omega)
    rw [this]
  | n + 1, j, v, hj => by
    simp (disch := omega) only [b_X12_row_57, w32_id, if_pos, b_X12_row_69]
    rw [b_X12_row_77, w32_id (by omega) (by omega)]
    have h3 := lp_row x1 x2 x3 h0 h1 n (j + 1) (pm_up v 88 (j : Int).toNat 0) (by omega)
    rw [show ((j + 1 : Nat) : Int) = (j : Int) + 1 by omega] at h3
    refine h3.trans ?_
    have : pm_fl (pm_up v 88 (j : Int).toNat 0) 88 (j + 1) (j + 1 + n) 0 = pm_fl v 88 j (j + (n + 1)) 0 := by
      funext a i
      unfold pm_fl pm_up
      by_cases h1 : a = 88 ∧ j + 1 ≤ i ∧ i < j + 1 + n
      · rw [if_pos h1, if_pos (by omega)]
      · rw [if_neg h1]
        by_cases h2 : a = 88 ∧ i = (j : Int).toNat
        · rw [if_pos h2, if_pos (by omega)]
        · rw [if_neg h2, if_neg (by omega)]
    rw [this]
theorem op_38 (h : Fresh v) (a s n : Int) : pOK 6 xs v nX11_row nX12_row 0 [(0, a), (0, s), (0, n)] := by
  refine pok (r := if (0 ≤ a ∧ a < 6) ∧ (0 ≤ s ∧ s ≤ 4) ∧ n ≤ 60 then (if n < 0 then -14 else 1) else -1) ?_ (fun v h => ?_)
  · by_cases h1 : 0 ≤ a ∧ a < 6
    · by_cases h2 : 0 ≤ s ∧ s ≤ 4
      · by_cases h3 : n ≤ 60
        · rw [if_pos ⟨h1, h2, h3⟩]
          by_cases h4 : n < 0
          · rw [if_pos h4]
            exact ⟨v, M0_of h, by simp (disch := omega) only [e_X11_row, b_X11_row_0, b_X11_row_4, b_X11_row_7, b_X11_row_11, b_X11_row_16, b_X11_row_22, b_X11_row_24, b_X11_row_28, b_X11_row_31, b_X11_row_41, cs_has, zb_0, if_pos h1, if_pos, if_neg, qB_some, psh_some, psh_none, and_true, true_and, and_false, false_and, and_self, or_true, true_or, or_false, false_or, not_true_eq_false, not_false_eq_true, ↓reduceIte, Int.reduceEq, Int.reduceLT, Int.reduceLE, Int.reduceToNat, Nat.reduceEqDiff, Nat.reduceAdd]⟩
          · rw [if_neg h4]
            have e := c_holdRow (L := 6) (xs := xs) (d := 997) (v := v) a s n h1.1 h1.2
            refine ⟨_, ?_, by simp (disch := omega) only [e_X11_row, b_X11_row_0, b_X11_row_4, b_X11_row_7, b_X11_row_11, b_X11_row_16, b_X11_row_22, b_X11_row_24, b_X11_row_28, b_X11_row_31, b_X11_row_41, cs_has, zb_0, if_pos h1, if_neg, e, qB_some, psh_some, psh_none, and_true, true_and, and_false, false_and, and_self, or_true, true_or, or_false, false_or, not_true_eq_false, not_false_eq_true, ↓reduceIte, Int.reduceEq, Int.reduceLT, Int.reduceLE, Int.reduceToNat, Nat.reduceEqDiff, Nat.reduceAdd]; rfl⟩
            exact M0_fl (M0_up (M0_up (M0_of h) (by decide)) (by decide)) (by omega)
        · rw [if_neg (fun q => h3 q.2.2)]
          exact ⟨v, M0_of h, by simp (disch := omega) only [e_X11_row, b_X11_row_0, b_X11_row_4, b_X11_row_7, b_X11_row_11, b_X11_row_16, b_X11_row_22, b_X11_row_24, b_X11_row_28, b_X11_row_31, b_X11_row_41, cs_has, zb_0, if_pos h1, if_pos, if_neg, qB_some, psh_some, psh_none, and_true, true_and, and_false, false_and, and_self, or_true, true_or, or_false, false_or, not_true_eq_false, not_false_eq_true, ↓reduceIte, Int.reduceEq, Int.reduceLT, Int.reduceLE, Int.reduceToNat, Nat.reduceEqDiff, Nat.reduceAdd]⟩
      · rw [if_neg (fun q => h2 q.2.1)]
        by_cases h5 : s < 0
        · exact ⟨v, M0_of h, by simp (disch := omega) only [e_X11_row, b_X11_row_0, b_X11_row_4, b_X11_row_7, b_X11_row_11, b_X11_row_16, b_X11_row_22, b_X11_row_24, b_X11_row_28, b_X11_row_31, b_X11_row_41, cs_has, zb_0, if_pos h1, if_pos, if_neg, qB_some, psh_some, psh_none, and_true, true_and, and_false, false_and, and_self, or_true, true_or, or_false, false_or, not_true_eq_false, not_false_eq_true, ↓reduceIte, Int.reduceEq, Int.reduceLT, Int.reduceLE, Int.reduceToNat, Nat.reduceEqDiff, Nat.reduceAdd]⟩
        · exact ⟨v, M0_of h, by simp (disch := omega) only [e_X11_row, b_X11_row_0, b_X11_row_4, b_X11_row_7, b_X11_row_11, b_X11_row_16, b_X11_row_22, b_X11_row_24, b_X11_row_28, b_X11_row_31, b_X11_row_41, cs_has, zb_0, if_pos h1, if_pos, if_neg, qB_some, psh_some, psh_none, and_true, true_and, and_false, false_and, and_self, or_true, true_or, or_false, false_or, not_true_eq_false, not_false_eq_true, ↓reduceIte, Int.reduceEq, Int.reduceLT, Int.reduceLE, Int.reduceToNat, Nat.reduceEqDiff, Nat.reduceAdd]⟩
    · rw [if_neg (fun q => h1 q.1)]
      exact ⟨v, M0_of h, by simp (disch := omega) only [e_X11_row, b_X11_row_0, b_X11_row_4, b_X11_row_7, b_X11_row_11, b_X11_row_16, b_X11_row_22, b_X11_row_24, b_X11_row_28, b_X11_row_31, b_X11_row_41, cs_has, zb_0, if_neg h1, qB_some, psh_some, psh_none, and_true, true_and, and_false, false_and, and_self, or_true, true_or, or_false, false_or, not_true_eq_false, not_false_eq_true, ↓reduceIte, Int.reduceEq, Int.reduceLT, Int.reduceLE, Int.reduceToNat, Nat.reduceEqDiff, Nat.reduceAdd]⟩
  · by_cases h1 : 0 ≤ a ∧ a < 6
    · by_cases h2 : 0 ≤ s ∧ s ≤ 4
      · by_cases h3 : n ≤ 60
        · rw [if_pos ⟨h1, h2, h3⟩]
          by_cases h4 : n < 0
          · rw [if_pos h4]
            exact ⟨v, by simp (disch := omega) only [e_X12_row, b_X12_row_0, b_X12_row_4, b_X12_row_7, b_X12_row_16, b_X12_row_19, b_X12_row_25, b_X12_row_27, b_X12_row_31, b_X12_row_34, b_X12_row_44, b_X12_row_51, b_X12_row_83, ms_isShelf, c_within, zb_0, if_pos h1, if_pos, if_neg, qB_some, psh_some, psh_none, and_true, true_and, and_false, false_and, and_self, or_true, true_or, or_false, false_or, not_true_eq_false, not_false_eq_true, ↓reduceIte, Int.reduceEq, Int.reduceLT, Int.reduceLE, Int.reduceToNat, Nat.reduceEqDiff, Nat.reduceAdd]⟩
          · rw [if_neg h4]
            have e := lp_row (L := 6) (xs := xs) (d := 999) a s n h1.1 h1.2 60 (60 * a).toNat (pm_up (pm_up v 86 a.toNat (50 + s)) 87 a.toNat n) (by omega)
            rw [show (((60 * a).toNat : Nat) : Int) = 60 * a by omega] at e
            exact ⟨_, by simp (disch := omega) only [e_X12_row, b_X12_row_0, b_X12_row_4, b_X12_row_7, b_X12_row_16, b_X12_row_19, b_X12_row_27, b_X12_row_34, b_X12_row_44, b_X12_row_51, ms_isShelf, c_within, zb_0, if_pos h1, if_pos, if_neg, w32_id, e, qB_some, psh_some, psh_none, and_true, true_and, and_false, false_and, and_self, or_true, true_or, or_false, false_or, not_true_eq_false, not_false_eq_true, ↓reduceIte, Int.reduceEq, Int.reduceLT, Int.reduceLE, Int.reduceToNat, Nat.reduceEqDiff, Nat.reduceAdd]; rfl⟩
        · rw [if_neg (fun q => h3 q.2.2)]
          exact ⟨v, by simp (disch := omega) only [e_X12_row, b_X12_row_0, b_X12_row_4, b_X12_row_7, b_X12_row_16, b_X12_row_19, b_X12_row_25, b_X12_row_27, b_X12_row_31, b_X12_row_34, b_X12_row_44, b_X12_row_51, b_X12_row_83, ms_isShelf, c_within, zb_0, if_pos h1, if_pos, if_neg, qB_some, psh_some, psh_none, and_true, true_and, and_false, false_and, and_self, or_true, true_or, or_false, false_or, not_true_eq_false, not_false_eq_true, ↓reduceIte, Int.reduceEq, Int.reduceLT, Int.reduceLE, Int.reduceToNat, Nat.reduceEqDiff, Nat.reduceAdd]⟩
      · rw [if_neg (fun q => h2 q.2.1)]
        exact ⟨v, by simp (disch := omega) only [e_X12_row, b_X12_row_0, b_X12_row_4, b_X12_row_7, b_X12_row_16, b_X12_row_19, b_X12_row_25, b_X12_row_27, b_X12_row_31, b_X12_row_34, b_X12_row_44, b_X12_row_51, b_X12_row_83, ms_isShelf, c_within, zb_0, if_pos h1, if_pos, if_neg, qB_some, psh_some, psh_none, and_true, true_and, and_false, false_and, and_self, or_true, true_or, or_false, false_or, not_true_eq_false, not_false_eq_true, ↓reduceIte, Int.reduceEq, Int.reduceLT, Int.reduceLE, Int.reduceToNat, Nat.reduceEqDiff, Nat.reduceAdd]⟩
    · rw [if_neg (fun q => h1 q.1)]
      exact ⟨v, by simp (disch := omega) only [e_X12_row, b_X12_row_0, b_X12_row_4, b_X12_row_7, b_X12_row_16, b_X12_row_19, b_X12_row_25, b_X12_row_27, b_X12_row_31, b_X12_row_34, b_X12_row_44, b_X12_row_51, b_X12_row_83, ms_isShelf, zb_0, if_neg h1, qB_some, psh_some, psh_none, and_true, true_and, and_false, false_and, and_self, or_true, true_or, or_false, false_or, not_true_eq_false, not_false_eq_true, ↓reduceIte, Int.reduceEq, Int.reduceLT, Int.reduceLE, Int.reduceToNat, Nat.reduceEqDiff, Nat.reduceAdd]⟩
theorem op_37 (h : Fresh v) (a w : Int) : pOK 6 xs v nX11_keep nX12_keep 0 [(0, a), (0, w)] := by
  refine pok (r := if (0 ≤ a ∧ a < 6) ∧ w = -1 then 1 else -1) ?_ (fun v h => ?_)
  · have e := f_49_2 h
    by_cases h1 : 0 ≤ a ∧ a < 6
    · by_cases h2 : w = -1
      · rw [if_pos ⟨h1, h2⟩]
        subst h2
        refine ⟨_, ?_, by simp (disch := omega) only [e_X11_keep, b_X11_keep_0, b_X11_keep_4, b_X11_keep_7, b_X11_keep_12, b_X11_keep_20, b_X11_keep_23, b_X11_keep_25, b_X11_keep_30, b_X11_keep_38, b_X11_keep_41, b_X11_keep_50, e_X8_clear, b_X8_clear_0, b_X8_clear_4, b_X8_clear_7, b_X8_clear_14, cs_has, zb_0, if_pos h1, qB_some, psh_some, psh_none, and_true, true_and, and_false, false_and, and_self, or_true, true_or, or_false, false_or, not_true_eq_false, not_false_eq_true, ↓reduceIte, Int.reduceEq, Int.reduceLT, Int.reduceLE, Int.reduceToNat, Nat.reduceEqDiff, Nat.reduceAdd]; rfl⟩
        exact M0_up (M0_of h) (by decide)
      · rw [if_neg (fun q => h2 q.2)]
        exact ⟨v, M0_of h, by simp (disch := omega) only [e_X11_keep, b_X11_keep_0, b_X11_keep_4, b_X11_keep_7, b_X11_keep_12, b_X11_keep_20, b_X11_keep_23, b_X11_keep_25, b_X11_keep_30, b_X11_keep_38, b_X11_keep_41, b_X11_keep_50, cs_has, cb_has, zb_0, if_pos h1, if_neg, f_0_11 h, f_1_1 h, f_1_2 h, f_3_0 h, f_4_0 h, f_5_0 h, f_6_0 h, f_7_0 h, f_8_0 h, f_9_0 h, f_10_0 h, f_11_0 h, f_12_0 h, f_13_0 h, f_14_0 h, f_18_4 h, f_18_5 h, f_23_1 h, f_23_2 h, f_23_5 h, f_23_6 h, f_23_7 h, f_23_8 h, f_23_9 h, f_23_10 h, f_29_8 h, f_29_9 h, f_38_0 h, f_38_1 h, f_38_2 h, f_42_0 h, f_47_0 h, f_47_1 h, f_47_2 h, f_47_3 h, f_48_0 h, f_48_1 h, f_48_2 h, f_48_3 h, f_49_2 h, f_49_3 h, f_53_0 h, f_53_1 h, f_53_2 h, f_53_3 h, f_53_4 h, f_53_5 h, f_63_4 h, f_63_5 h, f_63_6 h, f_63_8 h, f_63_12 h, f_63_14 h, f_63_15 h, f_63_16 h, f_63_17 h, f_63_18 h, f_63_19 h, f_63_22 h, f_63_23 h, f_63_24 h, f_63_32 h, f_63_33 h, f_63_34 h, f_63_35 h, f_63_36 h, f_63_39 h, f_63_42 h, f_63_43 h, f_63_44 h, f_64_0 h, f_64_30 h, f_64_60 h, f_64_90 h, f_64_138 h, f_64_139 h, f_64_140 h, f_64_141 h, f_64_142 h, f_64_143 h, f_79_0 h, f_86_0 h, f_86_1 h, f_86_2 h, f_86_3 h, f_86_4 h, f_86_5 h, qB_some, psh_some, psh_none, and_true, true_and, and_false, false_and, and_self, or_true, true_or, or_false, false_or, not_true_eq_false, not_false_eq_true, ↓reduceIte, Int.reduceEq, Int.reduceLT, Int.reduceLE, Int.reduceToNat, Nat.reduceEqDiff, Nat.reduceAdd]⟩
    · rw [if_neg (fun q => h1 q.1)]
      exact ⟨v, M0_of h, by simp (disch := omega) only [e_X11_keep, b_X11_keep_0, b_X11_keep_4, b_X11_keep_7, b_X11_keep_12, b_X11_keep_20, b_X11_keep_23, b_X11_keep_25, b_X11_keep_30, b_X11_keep_38, b_X11_keep_41, b_X11_keep_50, cs_has, zb_0, if_neg h1, qB_some, psh_some, psh_none, and_true, true_and, and_false, false_and, and_self, or_true, true_or, or_false, false_or, not_true_eq_false, not_false_eq_true, ↓reduceIte, Int.reduceEq, Int.reduceLT, Int.reduceLE, Int.reduceToNat, Nat.reduceEqDiff, Nat.reduceAdd]⟩
  · have e := g_63_39 h
    by_cases h1 : 0 ≤ a ∧ a < 6
    · by_cases h2 : w = -1
      · rw [if_pos ⟨h1, h2⟩]
        subst h2
        exact ⟨_, by simp (disch := omega) only [e_X12_keep, b_X12_keep_0, b_X12_keep_4, b_X12_keep_7, b_X12_keep_12, b_X12_keep_17, b_X12_keep_20, b_X12_keep_22, b_X12_keep_29, b_X12_keep_36, ms_isShelf, zb_0, if_pos h1, qB_some, psh_some, psh_none, and_true, true_and, and_false, false_and, and_self, or_true, true_or, or_false, false_or, not_true_eq_false, not_false_eq_true, ↓reduceIte, Int.reduceEq, Int.reduceLT, Int.reduceLE, Int.reduceToNat, Nat.reduceEqDiff, Nat.reduceAdd]; rfl⟩
      · rw [if_neg (fun q => h2 q.2)]
        exact ⟨v, by simp (disch := omega) only [e_X12_keep, b_X12_keep_0, b_X12_keep_4, b_X12_keep_7, b_X12_keep_12, b_X12_keep_17, b_X12_keep_20, b_X12_keep_22, b_X12_keep_29, b_X12_keep_36, ms_isShelf, mb_isBody, zb_0, if_pos h1, if_neg, g_63_4 h, g_63_5 h, g_63_6 h, g_63_8 h, g_63_12 h, g_63_14 h, g_63_15 h, g_63_16 h, g_63_17 h, g_63_18 h, g_63_19 h, g_63_22 h, g_63_23 h, g_63_24 h, g_63_32 h, g_63_33 h, g_63_34 h, g_63_35 h, g_63_36 h, g_63_39 h, g_63_42 h, g_63_43 h, g_63_44 h, g_64_0 h, g_64_30 h, g_64_60 h, g_64_90 h, g_64_138 h, g_64_139 h, g_64_140 h, g_64_141 h, g_64_142 h, g_64_143 h, g_79_0 h, g_86_0 h, g_86_1 h, g_86_2 h, g_86_3 h, g_86_4 h, g_86_5 h, qB_some, psh_some, psh_none, and_true, true_and, and_false, false_and, and_self, or_true, true_or, or_false, false_or, not_true_eq_false, not_false_eq_true, ↓reduceIte, Int.reduceEq, Int.reduceLT, Int.reduceLE, Int.reduceToNat, Nat.reduceEqDiff, Nat.reduceAdd]⟩
    · rw [if_neg (fun q => h1 q.1)]
      exact ⟨v, by simp (disch := omega) only [e_X12_keep, b_X12_keep_0, b_X12_keep_4, b_X12_keep_7, b_X12_keep_12, b_X12_keep_17, b_X12_keep_20, b_X12_keep_22, b_X12_keep_29, b_X12_keep_36, ms_isShelf, zb_0, if_neg h1, qB_some, psh_some, psh_none, and_true, true_and, and_false, false_and, and_self, or_true, true_or, or_false, false_or, not_true_eq_false, not_false_eq_true, ↓reduceIte, Int.reduceEq, Int.reduceLT, Int.reduceLE, Int.reduceToNat, Nat.reduceEqDiff, Nat.reduceAdd]⟩
end OC
