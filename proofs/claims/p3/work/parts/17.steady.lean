/-! THE STEADY HEAP: what cells there are once both objects are made; references that never change are read off, all else is a number of v (written by wip/p1/17.steady.py) -/
def SH : List (Nat × Nat × Nat) := [(0, 9, 12), (0, 7, 3), (1, 4, 15), (1, 0, 30), (1, 0, 30), (1, 0, 30), (1, 0, 30), (1, 0, 30), (1, 0, 30), (1, 0, 30), (1, 0, 30), (1, 0, 30), (1, 0, 30), (1, 0, 30), (1, 0, 30), (1, 0, 30), (1, 0, 30), (1, 0, 30), (0, 1, 6), (1, 0, 40), (1, 0, 40), (1, 0, 40), (1, 0, 40), (0, 5, 11), (1, 0, 120), (1, 0, 121), (1, 0, 121), (1, 0, 6), (1, 0, 120), (0, 8, 10), (1, 0, 172), (1, 0, 172), (1, 0, 172), (1, 0, 172), (1, 0, 60), (1, 0, 3600), (1, 0, 60), (1, 0, 60), (0, 4, 3), (1, 0, 30), (1, 0, 30), (0, 2, 2), (1, 0, 36), (1, 0, 36), (0, 2, 2), (1, 0, 36), (1, 0, 36), (0, 3, 4), (0, 3, 4), (0, 0, 4), (1, 0, 50), (1, 0, 24), (0, 6, 4), (1, 0, 6), (1, 0, 6), (1, 0, 6), (1, 5, 6), (1, 1, 60), (1, 1, 60), (1, 1, 60), (1, 1, 60), (1, 1, 60), (1, 1, 60), (0, 10, 49), (1, 0, 144), (1, 0, 40), (1, 0, 40), (1, 0, 40), (1, 0, 12), (1, 0, 12), (1, 0, 12), (1, 0, 120), (1, 0, 120), (1, 0, 6), (1, 0, 3600), (1, 0, 60), (1, 2, 60), (1, 0, 30), (1, 0, 30), (1, 0, 36), (1, 0, 36), (1, 2, 60), (1, 0, 36), (1, 0, 4), (1, 0, 50), (1, 0, 24), (1, 0, 6), (1, 0, 6), (1, 1, 360), (1, 1, 60)]
def pm_refs : List (List (Option Int)) := [[some 1, some 18, some 23, some 29, some 38, some 41, some 44, some 47, some 48, some 49, some 52], [some 2], [some 3, some 4, some 5, some 6, some 7, some 8, some 9, some 10, some 11, some 12, some 13, some 14, some 15, some 16, some 17], [], [], [], [], [], [], [], [], [], [], [], [], [], [], [], [some 19, some 20, some 21, some 22], [], [], [], [], [some 24, none, none, some 27, some 28], [], [], [], [], [], [some 30, some 31, some 32, some 33, some 34, some 35, some 36, some 37], [], [], [], [], [], [], [], [], [], [], [], [some 42, some 43], [], [], [some 45, some 46], [], [], [], [], [some 50, some 51], [], [], [some 53, some 54, some 55, some 56], [], [], [], [some 57, some 58, some 59, some 60, some 61, some 62], [], [], [], [], [], [], [some 64, some 65, some 66, some 67, none, none, none, some 68, none, some 69, some 70, some 71, none, some 72, none, none, none, none, none, none, some 73, some 74, none, none, none, some 75, some 76, some 77, some 78, some 79, some 80, some 81, none, none, none, none, none, some 82, some 83, none, some 84, some 85, none, none, none, some 86, some 87, some 88, some 89], [], [], [], [], [], [], [], [], [], [], [], [], [], [], [], [], [], [], [], [], [], [], [], [], [], []]
def refAt (c k : Nat) : Option Int := match pm_get pm_refs c with
  | some l => (match pm_get l k with
    | some q => q
    | none => none)
  | none => none
def mm (v : Nat → Nat → Int) : Nat → Nat → Int := fun c k => match refAt c k with
  | some z => z
  | none => v c k
theorem mm_up {v : Nat → Nat → Int} {c k : Nat} {x : Int} (h : refAt c k = none) : pm_up (mm v) c k x = mm (pm_up v c k x) := by
  funext a i
  show (if a = c ∧ i = k then x else mm v a i) = (match refAt a i with
    | some z => z
    | none => if a = c ∧ i = k then x else v a i)
  by_cases hc : a = c ∧ i = k
  · obtain ⟨rfl, rfl⟩ := hc
    rw [if_pos ⟨rfl, rfl⟩, if_pos ⟨rfl, rfl⟩, h]
  · rw [if_neg hc, if_neg hc]
    rfl
theorem mm_cpy {v : Nat → Nat → Int} {s d sp dp n : Nat} (hs : ∀ k, refAt s k = none) (hd : ∀ k, refAt d k = none) : pm_cpy (mm v) s d sp dp n = mm (pm_cpy v s d sp dp n) := by
  funext a i
  show (if a = d ∧ dp ≤ i ∧ i < dp + n then mm v s (sp + (i - dp)) else mm v a i) = (match refAt a i with
    | some z => z
    | none => if a = d ∧ dp ≤ i ∧ i < dp + n then v s (sp + (i - dp)) else v a i)
  by_cases hc : a = d ∧ dp ≤ i ∧ i < dp + n
  · rw [if_pos hc, if_pos hc]
    obtain ⟨rfl, -⟩ := hc
    rw [hd]
    show (match refAt s (sp + (i - dp)) with
      | some z => z
      | none => v s (sp + (i - dp))) = _
    rw [hs]
  · rw [if_neg hc, if_neg hc]
    rfl
def qS (v : Nat → Nat → Int) : pm_S := (SH, mm v)
noncomputable def qE (L : Nat) (xs : Nat → Int) (d y : Nat) (a : List pm_V) (σ : pm_S) : Option pm_R := pm_E pm_T (pm_X0 L xs) pm_fc d y a σ
noncomputable def qG (L : Nat) (xs : Nat → Int) (d : Nat) (C : pm_C) (pc : Nat) (ls st : List pm_V) (σ : pm_S) : Option pm_R := pm_go (pm_E pm_T (pm_X0 L xs) pm_fc d) (pm_X0 L xs) pm_fc C (pc, ls, st, σ)
def qB (o : Option pm_R) (k : Option pm_V → pm_S → Option pm_R) : Option pm_R := match o with
  | some (r, σ) => k r σ
  | none => none
theorem qB_some (r : Option pm_V) (σ : pm_S) (k : Option pm_V → pm_S → Option pm_R) : qB (some (r, σ)) k = k r σ := rfl
theorem psh_some (w : pm_V) (st : List pm_V) : pm_psh (some w) st = w :: st := rfl
theorem psh_none (st : List pm_V) : pm_psh none st = st := rfl
def pm_sts (orc : pm_O) (X : pm_X) (fc : pm_K) (C : pm_C) : Nat → Nat → List pm_V → List pm_V → pm_S → Option (pm_F ⊕ pm_R)
  | 0, pc, ls, st, σ => some (.inl (pc, ls, st, σ))
  | k + 1, pc, ls, st, σ => match pm_fetch C pc with
    | some (ins, x) => (match pm_exec orc X fc ins x pc ls st σ with
      | some (.inl (pc', ls', st', σ')) => pm_sts orc X fc C k pc' ls' st' σ'
      | r => r)
    | none => none
noncomputable def qO (L : Nat) (xs : Nat → Int) (d : Nat) (C : pm_C) (o : Option (pm_F ⊕ pm_R)) : Option pm_R := match o with
  | some (.inl (pc, ls, st, σ)) => qG L xs d C pc ls st σ
  | some (.inr r) => some r
  | none => none
section QQ
variable {L : Nat} {xs : Nat → Int} {d : Nat} {C : pm_C} {pc : Nat} {ls st : List pm_V} {σ : pm_S}
theorem qG_stk (k : Nat) : ∀ (pc : Nat) (ls st : List pm_V) (σ : pm_S), qG L xs d C pc ls st σ = qO L xs d C (pm_sts (pm_E pm_T (pm_X0 L xs) pm_fc d) (pm_X0 L xs) pm_fc C k pc ls st σ) := by
  induction k with
  | zero => intro pc ls st σ; rfl
  | succ k ih =>
    intro pc ls st σ
    unfold pm_sts
    have h := pm_go_step (pm_E pm_T (pm_X0 L xs) pm_fc d) (pm_X0 L xs) pm_fc C (pc, ls, st, σ)
    show pm_go (pm_E pm_T (pm_X0 L xs) pm_fc d) (pm_X0 L xs) pm_fc C (pc, ls, st, σ) = _
    rw [h]
    unfold pm_step
    dsimp only
    cases hf : pm_fetch C pc with
    | none => rfl
    | some w =>
      obtain ⟨ins, x⟩ := w
      dsimp only
      cases hs : pm_exec (pm_E pm_T (pm_X0 L xs) pm_fc d) (pm_X0 L xs) pm_fc ins x pc ls st σ with
      | none => rfl
      | some q =>
        cases q with
        | inl g' =>
          obtain ⟨pc', ls', st', σ'⟩ := g'
          exact ih pc' ls' st' σ'
        | inr r => rfl
theorem qG_mm {m m' : Nat → Nat → Int} (h : m = m') : qG L xs d C pc ls st (SH, m) = qG L xs d C pc ls st (SH, m') := by rw [h]
theorem qG_if {c : Prop} {i : Decidable c} {t f : Nat} : qG L xs d C (@ite _ c i t f) ls st σ = @ite _ c i (qG L xs d C t ls st σ) (qG L xs d C f ls st σ) := by
  cases i with
  | isTrue h => rfl
  | isFalse h => rfl
theorem qG_1 {ins : Instr} {x : pm_A} (hf : pm_fetch C pc = some (ins, x)) : qG L xs d C pc ls st σ = qO L xs d C (pm_exec (pm_E pm_T (pm_X0 L xs) pm_fc d) (pm_X0 L xs) pm_fc ins x pc ls st σ) := by
  have h := qG_stk (L := L) (xs := xs) (d := d) (C := C) 1 pc ls st σ
  rw [h]
  unfold pm_sts
  rw [hf]
  dsimp only
  cases pm_exec (pm_E pm_T (pm_X0 L xs) pm_fc d) (pm_X0 L xs) pm_fc ins x pc ls st σ with
  | none => rfl
  | some q =>
    cases q with
    | inl g =>
      obtain ⟨pc', ls', st', σ'⟩ := g
      rfl
    | inr r => rfl
theorem qO_ite {c : Prop} [i : Decidable c] {a b : Option (pm_F ⊕ pm_R)} : qO L xs d C (if c then a else b) = if c then qO L xs d C a else qO L xs d C b := by
  split <;> rfl
theorem qG_call {ins : Instr} {x : pm_A} {y : Nat} {as rest : List pm_V} (hfit : pm_fit 4 rest = true) (ho : pm_exec (pm_E pm_T (pm_X0 L xs) pm_fc d) (pm_X0 L xs) pm_fc ins x pc ls st σ = pm_call (pm_E pm_T (pm_X0 L xs) pm_fc d) y as rest pc ls σ) (hf : pm_fetch C pc = some (ins, x)) :
    qG L xs d C pc ls st σ = qB (qE L xs d y as σ) (fun r σ' => qG L xs d C (pc + 3) ls (pm_psh r rest) σ') := by
  rw [qG_1 hf, ho]
  unfold pm_call qB qE
  rw [hfit]
  show qO L xs d C (match pm_E pm_T (pm_X0 L xs) pm_fc d y as σ with
    | some (rv, σ') => pm_nx (pc + 3) ls (pm_psh rv rest) σ'
    | none => none) = _
  cases pm_E pm_T (pm_X0 L xs) pm_fc d y as σ with
  | none => rfl
  | some q => rfl
/-- loads and stores at a place that isn't known -/
theorem qG_ald {ins : Instr} {x : pm_A} {k : Int} {i n t : Nat} {f : Nat → Int} (hf : pm_fetch C pc = some (ins, x)) (he : pm_exec (pm_E pm_T (pm_X0 L xs) pm_fc d) (pm_X0 L xs) pm_fc ins x pc ls ((0, k) :: (2, .ofNat i) :: st) σ = (if 0 ≤ k ∧ k < (n : Int) then pm_nx (pc + 1) ls ((t, f k.toNat) :: st) σ else none)) :
    qG L xs d C pc ls ((0, k) :: (2, .ofNat i) :: st) σ = if 0 ≤ k ∧ k < (n : Int) then qG L xs d C (pc + 1) ls ((t, f k.toNat) :: st) σ else none := by
  rw [qG_1 hf, he, qO_ite]
  rfl
theorem qG_ast {ins : Instr} {x : pm_A} {k v : Int} {i n t : Nat} {σ' : pm_S} (hf : pm_fetch C pc = some (ins, x)) (he : pm_exec (pm_E pm_T (pm_X0 L xs) pm_fc d) (pm_X0 L xs) pm_fc ins x pc ls ((t, v) :: (0, k) :: (2, .ofNat i) :: st) σ = (if 0 ≤ k ∧ k < (n : Int) then pm_nx (pc + 1) ls st σ' else none)) :
    qG L xs d C pc ls ((t, v) :: (0, k) :: (2, .ofNat i) :: st) σ = if 0 ≤ k ∧ k < (n : Int) then qG L xs d C (pc + 1) ls st σ' else none := by
  rw [qG_1 hf, he, qO_ite]
  rfl
theorem qG_iup {c : Prop} [Decidable c] {v : Nat → Nat → Int} {a k : Nat} {x : Int} (h : refAt a k = none) : (if c then qG L xs d C pc ls st (SH, pm_up (mm v) a k x) else none) = if c then qG L xs d C pc ls st (qS (pm_up v a k x)) else none := by
  rw [mm_up h]
  rfl
theorem qG_div {ins : Instr} {x : pm_A} {a b z : Int} (hf : pm_fetch C pc = some (ins, x)) (he : pm_exec (pm_E pm_T (pm_X0 L xs) pm_fc d) (pm_X0 L xs) pm_fc ins x pc ls ((0, b) :: (0, a) :: st) σ = (if b = 0 then none else pm_nx (pc + 1) ls ((0, z) :: st) σ)) :
    qG L xs d C pc ls ((0, b) :: (0, a) :: st) σ = if b = 0 then none else qG L xs d C (pc + 1) ls ((0, z) :: st) σ := by
  rw [qG_1 hf, he, qO_ite]
  rfl
theorem qG_retb (z : Int) (y : Nat × Int × Nat) (hf : pm_fetch C pc = some (.ireturn, (1, y))) : qG L xs d C pc ls [(0, z)] σ = if z = 0 ∨ z = 1 then some (some (0, z), σ) else none := by
  rw [qG_1 hf]
  show qO L xs d C (pm_ret 0 1 [(0, z)] σ) = _
  unfold pm_ret
  by_cases h : z = 0 ∨ z = 1
  · rw [if_pos h]
    show qO L xs d C (if 0 = 0 ∧ (1 = 1 → z = 0 ∨ z = 1) ∧ (1 = 2 → -128 ≤ z ∧ z ≤ 127) ∧ (0 = 2 → 0 ≤ z) then some (.inr (some (0, z), σ)) else none) = _
    rw [if_pos ⟨rfl, fun _ => h, fun q => absurd q (by decide), fun q => absurd q (by decide)⟩]
    rfl
  · rw [if_neg h]
    show qO L xs d C (if 0 = 0 ∧ (1 = 1 → z = 0 ∨ z = 1) ∧ (1 = 2 → -128 ≤ z ∧ z ≤ 127) ∧ (0 = 2 → 0 ≤ z) then some (.inr (some (0, z), σ)) else none) = _
    rw [if_neg (fun q => h (q.2.1 rfl))]
    rfl
theorem qG_swt {dflt lo hi z o : Int} {offs : Array Int} {y : pm_A} (hf : pm_fetch C pc = some (.tableswitch dflt lo hi offs, y)) (ho : pm_tsw dflt lo hi offs z = some o) : qG L xs d C pc ls ((0, z) :: st) σ = qG L xs d C (pm_tg pc o) ls st σ := by
  rw [qG_1 hf]
  show qO L xs d C (match pm_tsw dflt lo hi offs z with
    | some o => pm_nx (pm_tg pc o) ls st σ
    | none => none) = _
  rw [ho]
  rfl
theorem qG_swl {dflt z o : Int} {ps : Array (Int × Int)} {y : pm_A} (hf : pm_fetch C pc = some (.lookupswitch dflt ps, y)) (ho : Op.lookupswitch.offset ps.toList dflt z = o) : qG L xs d C pc ls ((0, z) :: st) σ = qG L xs d C (pm_tg pc o) ls st σ := by
  rw [qG_1 hf]
  show qO L xs d C (pm_nx (pm_tg pc (Op.lookupswitch.offset ps.toList dflt z)) ls st σ) = _
  rw [ho]
  rfl
end QQ
