/-! EQUATIONS BY HAND: what the program that writes equations left out (references read at a place that isn't known) -/
section HB
variable {L : Nat} {xs : Nat → Int} {d : Nat} {v : Nat → Nat → Int} {C : pm_C} {pc : Nat} {ls st : List pm_V}
theorem qG_1n {ins : Instr} {x : pm_A} {pc2 : Nat} {ls2 st2 : List pm_V} {σ σ2 : pm_S} (hf : pm_fetch C pc = some (ins, x)) (he : pm_exec (pm_E pm_T (pm_X0 L xs) pm_fc d) (pm_X0 L xs) pm_fc ins x pc ls st σ = pm_nx pc2 ls2 st2 σ2) : qG L xs d C pc ls st σ = qG L xs d C pc2 ls2 st2 σ2 := by
  rw [qG_1 hf, he]
  rfl
/-- a reference out of an array of references -/
theorem qG_aald {x : pm_A} {c e n : Nat} {k : Int} {t : Nat} (hf : pm_fetch C pc = some (.aaload, x)) (hs : pm_get SH c = some (1, e, n)) (he : e = 4 ∨ e = 5) (h0 : 0 ≤ k) (hn : k < (n : Int)) (hr : refAt c k.toNat = some (.ofNat t)) : qG L xs d C pc ls ((0, k) :: (2, .ofNat c) :: st) (qS v) = qG L xs d C (pc + 1) ls ((2, .ofNat t) :: st) (qS v) := by
  refine qG_1n hf ?_
  show (match pm_get (qS v).1 c with
    | some (1, e, n) => if e = 4 ∨ e = 5 then (if 0 ≤ k ∧ k < (n : Int) then pm_nx (pc + 1) ls ((2, (qS v).2 c k.toNat) :: st) (qS v) else none) else none
    | _ => none) = _
  rw [show pm_get (qS v).1 c = some (1, e, n) from hs]
  refine (if_pos he).trans ((if_pos ⟨h0, hn⟩).trans ?_)
  have : (qS v).2 c k.toNat = .ofNat t := by
    show (match refAt c k.toNat with
      | some z => z
      | none => v c k.toNat) = _
    rw [hr]
  rw [this]
theorem mm_at {c k : Nat} (h : refAt c k = none) : mm v c k = v c k := by
  unfold mm
  rw [h]
/-- a number out of an array whose cell isn't known -/
theorem qG_ald2 {ins : Instr} {x : pm_A} {c e t n : Nat} {k : Int} (hi : (ins = .iaload ∧ e = 0 ∧ t = 0) ∨ (ins = .laload ∧ e = 1 ∧ t = 1)) (hf : pm_fetch C pc = some (ins, x)) (hc : c < 1000) (hs : pm_get SH c = some (1, e, n)) (h0 : 0 ≤ k) (hn : k < (n : Int)) (hr : refAt c k.toNat = none) : qG L xs d C pc ls ((0, k) :: (2, .ofNat c) :: st) (qS v) = qG L xs d C (pc + 1) ls ((t, v c k.toNat) :: st) (qS v) := by
  refine qG_1n hf ?_
  have h1 : pm_aload (pm_X0 L xs) e t pc ls ((0, k) :: (2, .ofNat c) :: st) (qS v) = pm_nx (pc + 1) ls ((t, v c k.toNat) :: st) (qS v) := by
    have h : pm_arr (pm_X0 L xs) (qS v) c = some (e, n, mm v c) := by
      unfold pm_arr
      rw [if_neg (by omega), show pm_get (qS v).1 c = some (1, e, n) from hs]
      rfl
    show (match pm_arr (pm_X0 L xs) (qS v) c with
      | some (e0, n, f) => if e0 = e then (if 0 ≤ k ∧ k < (n : Int) then pm_nx (pc + 1) ls ((t, f k.toNat) :: st) (qS v) else none) else none
      | none => none) = _
    rw [h]
    refine (if_pos rfl).trans ((if_pos ⟨h0, hn⟩).trans ?_)
    rw [mm_at hr]
  rcases hi with ⟨rfl, rfl, rfl⟩ | ⟨rfl, rfl, rfl⟩
  · exact h1
  · exact h1
theorem qG_ast2 {ins : Instr} {x : pm_A} {c e n : Nat} {k z : Int} (hi : (ins = .iastore ∧ e = 0) ∨ (ins = .lastore ∧ e = 1)) (hf : pm_fetch C pc = some (ins, x)) (hs : pm_get SH c = some (1, e, n)) (h0 : 0 ≤ k) (hn : k < (n : Int)) (hr : refAt c k.toNat = none) : qG L xs d C pc ls ((e, z) :: (0, k) :: (2, .ofNat c) :: st) (qS v) = qG L xs d C (pc + 1) ls st (qS (pm_up v c k.toNat z)) := by
  refine qG_1n hf ?_
  have h1 : pm_astore e e pc ls ((e, z) :: (0, k) :: (2, .ofNat c) :: st) (qS v) = pm_nx (pc + 1) ls st (qS (pm_up v c k.toNat z)) := by
    rw [pm_astore_own (σ := qS v) hs (fun q => ?_) h0 hn]
    · show pm_nx (pc + 1) ls st (SH, pm_up (mm v) c k.toNat z) = _
      rw [mm_up hr]
      rfl
    · rcases hi with ⟨-, rfl⟩ | ⟨-, rfl⟩ <;> exact absurd q (by decide)
  rcases hi with ⟨rfl, rfl⟩ | ⟨rfl, rfl⟩
  · exact h1
  · exact h1
theorem row_ref {k : Int} (h0 : 0 ≤ k) (hn : k < 15) : refAt 2 k.toNat = some (.ofNat (3 + k.toNat)) := (by decide : ∀ j, j < 15 → refAt 2 j = some (.ofNat (3 + j))) k.toNat (by omega)
theorem row_get {k : Int} (h0 : 0 ≤ k) (hn : k < 15) : pm_get SH (3 + k.toNat) = some (1, 0, 30) := (by decide : ∀ j, j < 15 → pm_get SH (3 + j) = some (1, 0, 30)) k.toNat (by omega)
theorem row_nr {k : Int} (h0 : 0 ≤ k) (hn : k < 15) (i : Nat) : refAt (3 + k.toNat) i = none := by
  have : pm_get pm_refs (3 + k.toNat) = some [] := (by decide : ∀ j, j < 15 → pm_get pm_refs (3 + j) = some []) k.toNat (by omega)
  unfold refAt
  rw [this]
  rfl
theorem b_X9_value_14 (x1 x2 : Int) (h0 : 0 ≤ x1) (h1 : x1 < 15) (h2 : 0 ≤ x2) (h3 : x2 < 30) : qG L xs d CX9_value 14 [(2, 1), (0, x1), (0, x2)] [(0, x1), (2, 2)] (qS v) = qG L xs d CX9_value 17 [(2, 1), (0, x1), (0, x2)] [(0, v (3 + x1.toNat) x2.toNat)] (qS v) := by
  refine (qG_aald (c := 2) (e := 4) (n := 15) (t := 3 + x1.toNat) rfl rfl (Or.inl rfl) h0 h1 (row_ref h0 h1)).trans ?_
  rw [b_X9_value_15]
  exact qG_ald2 (Or.inl ⟨rfl, rfl, rfl⟩) rfl (by omega) (row_get h0 h1) h2 h3 (row_nr h0 h1 _)
theorem b_X9_set_14 (x1 x2 x3 : Int) (h0 : 0 ≤ x1) (h1 : x1 < 15) (h2 : 0 ≤ x2) (h3 : x2 < 30) : qG L xs d CX9_set 14 [(2, 1), (0, x1), (0, x2), (0, x3)] [(0, x1), (2, 2)] (qS v) = some (none, qS (pm_up v (3 + x1.toNat) x2.toNat x3)) := by
  refine (qG_aald (c := 2) (e := 4) (n := 15) (t := 3 + x1.toNat) rfl rfl (Or.inl rfl) h0 h1 (row_ref h0 h1)).trans ?_
  rw [b_X9_set_15]
  refine (qG_ast2 (Or.inl ⟨rfl, rfl⟩) rfl (row_get h0 h1) h2 h3 (row_nr h0 h1 _)).trans ?_
  exact b_X9_set_18 _ _ _
end HB
