/-! THE FIRST STATE's calls: shelves filled, owners, images -/
section OC
variable {L : Nat} {xs : Nat → Int} {d : Nat} {v : Nat → Nat → Int} {C : pm_C} {pc : Nat} {ls st : List pm_V} {a b c x y z : Int}
theorem qG_cpy {i : Nat} {x : pm_A} {s t e ns nt : Nat} {sp tp n : Int} (hf : pm_fetch C pc = some (.invokestatic i, x)) (hx : x.2.2.1 = 1) (hs : pm_get SH s = some (1, e, ns)) (ht : pm_get SH t = some (1, e, nt)) (he : e = 0 ∨ e = 1) (h1 : 0 ≤ sp) (h2 : 0 ≤ tp) (h3 : 0 ≤ n) (h4 : sp + n ≤ (ns : Int)) (h5 : tp + n ≤ (nt : Int)) (hst : pm_fit 4 st = true) (rs : ∀ k, refAt s k = none) (rt : ∀ k, refAt t k = none) :
    qG L xs d C pc ls ((0, n) :: (0, tp) :: (2, .ofNat t) :: (0, sp) :: (2, .ofNat s) :: st) (qS v) = qG L xs d C (pc + 3) ls st (qS (pm_cpy v s t sp.toNat tp.toNat n.toNat)) := by
  refine qG_1n hf ?_
  obtain ⟨x1, x2, x3, x4⟩ := x
  subst hx
  show (match pm_get (qS v).1 s, pm_get (qS v).1 t, pm_fit 4 st with
    | some (1, e, ns), some (1, e', nd), true => if (e = 0 ∨ e = 1) ∧ e' = e then (if 0 ≤ sp ∧ 0 ≤ tp ∧ 0 ≤ n ∧ sp + n ≤ (ns : Int) ∧ tp + n ≤ (nd : Int) then pm_nx (pc + 3) ls st ((qS v).1, pm_cpy (qS v).2 s t sp.toNat tp.toNat n.toNat) else none) else none
    | _, _, _ => none) = _
  rw [show pm_get (qS v).1 s = some (1, e, ns) from hs, show pm_get (qS v).1 t = some (1, e, nt) from ht, hst]
  refine (if_pos ⟨he, rfl⟩).trans ((if_pos ⟨h1, h2, h3, h4, h5⟩).trans ?_)
  show pm_nx (pc + 3) ls st (SH, pm_cpy (mm v) s t sp.toNat tp.toNat n.toNat) = _
  rw [mm_cpy rs rt]
  rfl
theorem nr_of {c : Nat} (h : pm_get pm_refs c = some []) (k : Nat) : refAt c k = none := by
  unfold refAt
  rw [h]
  rfl
theorem sh_ref {k : Int} (h0 : 0 ≤ k) (hn : k < 6) : refAt 56 k.toNat = some (.ofNat (57 + k.toNat)) := (by decide : ∀ j, j < 6 → refAt 56 j = some (.ofNat (57 + j))) k.toNat (by omega)
theorem sh_get {k : Int} (h0 : 0 ≤ k) (hn : k < 6) : pm_get SH (57 + k.toNat) = some (1, 1, 60) := (by decide : ∀ j, j < 6 → pm_get SH (57 + j) = some (1, 1, 60)) k.toNat (by omega)
theorem sh_nr {k : Int} (h0 : 0 ≤ k) (hn : k < 6) (i : Nat) : refAt (57 + k.toNat) i = none := nr_of ((by decide : ∀ j, j < 6 → pm_get pm_refs (57 + j) = some []) k.toNat (by omega)) i
theorem mm_fl {c lo hi : Nat} {z : Int} (h : ∀ k, refAt c k = none) : pm_fl (mm v) c lo hi z = mm (pm_fl v c lo hi z) := by
  funext a i
  show (if a = c ∧ lo ≤ i ∧ i < hi then z else mm v a i) = (match refAt a i with
    | some z => z
    | none => if a = c ∧ lo ≤ i ∧ i < hi then z else v a i)
  by_cases hc : a = c ∧ lo ≤ i ∧ i < hi
  · rw [if_pos hc, if_pos hc, hc.1, h]
  · rw [if_neg hc, if_neg hc]
    rfl
/-- fills, over the steady heap -/
theorem q_fill {c n : Nat} {z : Int} (hc : c < 1000) (hs : pm_get SH c = some (1, 0, n)) (hn : n < 2147483648) (hr : ∀ k, refAt c k = none) : qE L xs (d + 1) nJ7_fill_53178 [(2, .ofNat c), (0, z)] (qS v) = some (none, qS (pm_fl v c 0 n z)) := by
  refine (fi_all hc hs hn).trans ?_
  rw [mm_fl hr]
  rfl
theorem q_fillL {c n : Nat} {z : Int} (hc : c < 1000) (hs : pm_get SH c = some (1, 1, n)) (hn : n < 2147483648) (hr : ∀ k, refAt c k = none) : qE L xs (d + 1) nJ7_fill_d0a16 [(2, .ofNat c), (1, z)] (qS v) = some (none, qS (pm_fl v c 0 n z)) := by
  refine (fj_all hc hs hn).trans ?_
  rw [mm_fl hr]
  rfl
theorem b_X8_holdRow_35 (x1 x2 x3 : Int) (h0 : 0 ≤ x1) (h1 : x1 < 6) : qG L xs (d + 1) CX8_holdRow 35 [(2, 52), (0, x1), (0, x2), (0, x3)] [(0, x1), (2, 56)] (qS v) = some (none, qS (pm_fl v (57 + x1.toNat) 0 60 0)) := by
  refine (qG_aald (c := 56) (e := 5) (n := 6) (t := 57 + x1.toNat) rfl rfl (Or.inr rfl) h0 h1 (sh_ref h0 h1)).trans ?_
  rw [b_X8_holdRow_36, q_fillL (by omega) (sh_get h0 h1) (by decide) (sh_nr h0 h1), qB_some, psh_none, b_X8_holdRow_40]
theorem c_holdRow (x1 x2 x3 : Int) (h0 : 0 ≤ x1) (h1 : x1 < 6) : qE L xs (d + 2) nX8_holdRow [(2, 52), (0, x1), (0, x2), (0, x3)] (qS v) = some (none, qS (pm_fl (pm_up (pm_up v 53 x1.toNat x2) 55 x1.toNat (pm_max 0 (pm_min x3 60))) (57 + x1.toNat) 0 60 0)) := by
  have h2 : 0 ≤ x1 ∧ x1 < 6 := ⟨h0, h1⟩
  rw [e_X8_holdRow, b_X8_holdRow_0, cs_has, qB_some, psh_some, b_X8_holdRow_4, zb_0, if_pos h2, b_X8_holdRow_7, if_pos h2, b_X8_holdRow_14, if_pos h2, b_X8_holdRow_30, b_X8_holdRow_35 _ _ _ h0 h1]
theorem lp_row (x1 x2 x3 : Int) (h0 : 0 ≤ x1) (h1 : x1 < 6) : ∀ (n j : Nat) (v : Nat → Nat → Int), (j : Int) + n = 60 * x1 + 60 → qG L xs d CX12_row 57 [(2, 63), (0, x1), (0, x2), (0, x3), (0, (j : Int))] [] (qS v) = some (some (0, 1), qS (pm_fl v 88 j (j + n) 0))
  | 0, j, v, hj => by
    simp (disch := omega) only [b_X12_row_57, w32_id, if_neg, b_X12_row_83]
    have : pm_fl v 88 j (j + 0) 0 = v := by
      funext a i
      exact if_neg (by omega)
    rw [this]
  | n + 1, j, v, hj => by
    simp (disch := omega) only [b_X12_row_57, w32_id, if_pos, b_X12_row_69]
    rw [b_X12_row_77, w32_id (by omega) (by omega)]
    have h3 := lp_row x1 x2 x3 h0 h1 n (j + 1) (pm_up v 88 (j : Int).toNat 0) (by omega)
    rw [show ((j + 1 : Nat) : Int) = (j : Int) + 1 by omega] at h3
    refine h3.trans ?_
    have : pm_fl (pm_up v 88 (j : Int).toNat 0) 88 (j + 1) (j + 1 + n) 0 = pm_fl v 88 j (j + (n + 1)) 0 := by
      funext a i
      unfold pm_fl pm_up
      by_cases h1 : a = 88 ∧ j + 1 ≤ i ∧ i < j + 1 + n
      · rw [if_pos h1, if_pos (by omega)]
      · rw [if_neg h1]
        by_cases h2 : a = 88 ∧ i = (j : Int).toNat
        · rw [if_pos h2, if_pos (by omega)]
        · rw [if_neg h2, if_neg (by omega)]
    rw [this]
end OC
