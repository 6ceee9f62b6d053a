/-! A TABLE IS CHECKED by program: each row decodes so, each link is one of the proved ones -/
def pm_ents1 : Nat → List (Option (Instr × pm_A)) → List (Nat × Instr × pm_A)
  | _, [] => []
  | i, none :: l => pm_ents1 (i + 1) l
  | i, some q :: l => (i, q) :: pm_ents1 (i + 1) l
def pm_ents : Nat → pm_C → List (Nat × Instr × pm_A)
  | _, [] => []
  | i, l :: C => pm_ents1 i l ++ pm_ents (i + 16) C
theorem pm_ents1_mem : ∀ {l : List (Option (Instr × pm_A))} {i j : Nat} {q : Instr × pm_A}, pm_get l j = some (some q) → (i + j, q) ∈ pm_ents1 i l
  | [], i, j, q, h => by cases j <;> cases h
  | none :: l, i, 0, q, h => by cases h
  | none :: l, i, j + 1, q, h => by
    have := pm_ents1_mem (l := l) (i := i + 1) (j := j) h
    rw [show i + 1 + j = i + (j + 1) by omega] at this
    exact this
  | some r :: l, i, 0, q, h => by
    have : r = q := Option.some.inj (Option.some.inj h)
    subst this
    exact List.mem_cons.mpr (Or.inl rfl)
  | some r :: l, i, j + 1, q, h => by
    have := pm_ents1_mem (l := l) (i := i + 1) (j := j) h
    rw [show i + 1 + j = i + (j + 1) by omega] at this
    exact List.mem_cons_of_mem _ this
theorem pm_ents_mem : ∀ {C : pm_C} {i k : Nat} {l : List (Option (Instr × pm_A))} {x : Nat × Instr × pm_A}, pm_get C k = some l → x ∈ pm_ents1 (i + 16 * k) l → x ∈ pm_ents i C
  | [], i, k, l, x, h, _ => by cases k <;> cases h
  | r :: C, i, 0, l, x, h, hx => by
    have : r = l := Option.some.inj h
    subst this
    exact List.mem_append_left _ hx
  | r :: C, i, k + 1, l, x, h, hx => by
    refine List.mem_append_right _ (pm_ents_mem (C := C) (i := i + 16) (k := k) h ?_)
    rw [show i + 16 + 16 * k = i + 16 * (k + 1) by omega]
    exact hx
theorem pm_fetch_mem {C : pm_C} {pc : Nat} {q : Instr × pm_A} (h : pm_fetch C pc = some q) : (pc, q) ∈ pm_ents 0 C := by
  unfold pm_fetch at h
  split at h
  · next l hl =>
    split at h
    · next r hr =>
      subst h
      refine pm_ents_mem hl ?_
      have := pm_ents1_mem (i := 0 + 16 * (pc / 16)) hr
      rw [show 0 + 16 * (pc / 16) + pc % 16 = pc by omega] at this
      exact this
    · cases h
  · cases h
def pm_islk : Instr → Bool
  | .ldc _ => true
  | .ldc_w _ => true
  | .ldc2_w _ => true
  | .getstatic _ => true
  | .getfield _ => true
  | .putfield _ => true
  | .new _ => true
  | .newarray _ => true
  | .multianewarray _ _ => true
  | .invokestatic _ => true
  | .invokevirtual _ => true
  | .invokespecial _ => true
  | _ => false
def pm_triv (ret : Option FieldType) (pc : Nat) (ins : Instr) (x : pm_A) : Bool := match ins with
  | .iconst n => decide (-128 ≤ n ∧ n ≤ 127)
  | .bipush n => decide (-128 ≤ n ∧ n ≤ 127)
  | .sipush n => decide (-32768 ≤ n ∧ n ≤ 32767)
  | .ifCond _ off => decide (0 ≤ (pc : Int) + off)
  | .if_icmp _ off => decide (0 ≤ (pc : Int) + off)
  | .goto off => decide (0 ≤ (pc : Int) + off)
  | .tableswitch dflt _ _ offs => decide (0 ≤ (pc : Int) + dflt) && offs.toList.all (fun o => decide (0 ≤ (pc : Int) + o))
  | .lookupswitch dflt ps => (ps.toList.zip (ps.toList.drop 1)).all (fun (a, next) => a.1 < next.1) && decide (0 ≤ (pc : Int) + dflt) && ps.toList.all (fun q => decide (0 ≤ (pc : Int) + q.2))
  | .ireturn => (decide (x.1 = 0) && decide (ret = some .int)) || (decide (x.1 = 1) && decide (ret = some .boolean)) || (decide (x.1 = 2) && decide (ret = some .byte))
  | .lreturn => decide (ret = some .long)
  | .areturn => (match ret with
    | some (.object _) => true
    | _ => false)
  | .return_ => decide (ret = none)
  | _ => true
theorem pm_triv_ok {T : List pm_M} {own nm : String} {ret : Option FieldType} {pc : Nat} {ins : Instr} {x : pm_A} (hl : pm_islk ins = false) (h : pm_triv ret pc ins x = true) : pm_wd T own nm ret pc ins x := by
  cases ins with
  | iconst n => exact of_decide_eq_true (p := -128 ≤ n ∧ n ≤ 127) h
  | bipush n => exact of_decide_eq_true (p := -128 ≤ n ∧ n ≤ 127) h
  | sipush n => exact of_decide_eq_true (p := -32768 ≤ n ∧ n ≤ 32767) h
  | ifCond c off => exact of_decide_eq_true (p := 0 ≤ (pc : Int) + off) h
  | if_icmp c off => exact of_decide_eq_true (p := 0 ≤ (pc : Int) + off) h
  | goto off => exact of_decide_eq_true (p := 0 ≤ (pc : Int) + off) h
  | tableswitch dflt lo hi offs =>
    have h' : (decide (0 ≤ (pc : Int) + dflt) && offs.toList.all (fun o => decide (0 ≤ (pc : Int) + o))) = true := h
    rw [Bool.and_eq_true] at h'
    exact ⟨of_decide_eq_true h'.1, fun o ho => of_decide_eq_true (List.all_eq_true.mp h'.2 o ho)⟩
  | lookupswitch dflt ps =>
    have h' : ((ps.toList.zip (ps.toList.drop 1)).all (fun (a, next) => a.1 < next.1) && decide (0 ≤ (pc : Int) + dflt) && ps.toList.all (fun q => decide (0 ≤ (pc : Int) + q.2))) = true := h
    rw [Bool.and_eq_true, Bool.and_eq_true] at h'
    exact ⟨h'.1.1, of_decide_eq_true h'.1.2, fun o ho => of_decide_eq_true (List.all_eq_true.mp h'.2 o ho)⟩
  | ireturn =>
    have h' : ((decide (x.1 = 0) && decide (ret = some .int)) || (decide (x.1 = 1) && decide (ret = some .boolean)) || (decide (x.1 = 2) && decide (ret = some .byte))) = true := h
    simp only [Bool.or_eq_true, Bool.and_eq_true, decide_eq_true_eq] at h'
    rcases h' with (h' | h') | h'
    · exact Or.inl h'
    · exact Or.inr (Or.inl h')
    · exact Or.inr (Or.inr h')
  | lreturn => exact of_decide_eq_true (p := ret = some .long) h
  | areturn =>
    cases ret with
    | none => exact absurd h Bool.false_ne_true
    | some ft =>
      cases ft with
      | object n => exact ⟨n, rfl⟩
      | _ => exact absurd h Bool.false_ne_true
  | return_ => exact of_decide_eq_true (p := ret = none) h
  | ldc _ => cases hl
  | ldc_w _ => cases hl
  | ldc2_w _ => cases hl
  | getstatic _ => cases hl
  | getfield _ => cases hl
  | putfield _ => cases hl
  | new _ => cases hl
  | newarray _ => cases hl
  | multianewarray _ _ => cases hl
  | invokestatic _ => cases hl
  | invokevirtual _ => cases hl
  | invokespecial _ => cases hl
  | _ => exact trivial
abbrev pm_L : Type := String × String × Instr × Nat × Nat × Int
def pm_lkP (T : List pm_M) (q : pm_L) : Prop := pm_wd T q.1 q.2.1 none 0 q.2.2.1 (q.2.2.2.1, q.2.2.2.2.1, q.2.2.2.2.2, 0)
/-- the n-th of the links, which lie forty by forty -/
def pm_lkg (lks : List (List pm_L)) (n : Nat) : Option pm_L := match pm_get lks (n / 40) with
  | some l => pm_get l (n % 40)
  | none => none
theorem pm_lkg_P {P : pm_L → Prop} {lks : List (List pm_L)} (hlk : ∀ l ∈ lks, ∀ q ∈ l, P q) {n : Nat} {q : pm_L} (h : pm_lkg lks n = some q) : P q := by
  unfold pm_lkg at h
  split at h
  · next l hl => exact hlk l (pm_get_mem hl) q (pm_get_mem h)
  · cases h
def pm_lkc (lks : List (List pm_L)) (own nm : String) (ins : Instr) (x : pm_A) : Bool := match x.2.2.2 with
  | 0 => false
  | n + 1 => (match pm_lkg lks n with
    | some q => decide (q.1 = own) && (decide (q.2.1 = "") || decide (q.2.1 = nm)) && decide (q.2.2.1 = ins) && decide (q.2.2.2 = (x.1, x.2.1, x.2.2.1))
    | none => false)
theorem pm_wd_mv {T : List pm_M} {own nm0 nm : String} {ret : Option FieldType} {pc n : Nat} {ins : Instr} {a b : Nat} {z : Int} (hl : pm_islk ins = true) (hn : nm0 = "" ∨ nm0 = nm) (h : pm_wd T own nm0 none 0 ins (a, b, z, 0)) : pm_wd T own nm ret pc ins (a, b, z, n) := by
  cases ins with
  | putfield idx =>
    obtain ⟨r, h1, h2, h3, h4⟩ := h
    refine ⟨r, h1, h2, h3, ?_⟩
    rcases h4 with h4 | ⟨h4, h5, h6⟩
    · exact Or.inl h4
    · rcases hn with rfl | rfl
      · exact absurd h5 (by decide)
      · exact Or.inr ⟨h4, h5, h6⟩
  | ldc _ => exact h
  | ldc_w _ => exact h
  | ldc2_w _ => exact h
  | getstatic _ => exact h
  | getfield _ => exact h
  | new _ => exact h
  | newarray _ => exact h
  | multianewarray _ _ => exact h
  | invokestatic _ => exact h
  | invokevirtual _ => exact h
  | invokespecial _ => exact h
  | _ => cases hl
theorem pm_lkc_ok {T : List pm_M} {lks : List (List pm_L)} (hlk : ∀ l ∈ lks, ∀ q ∈ l, pm_lkP T q) {own nm : String} {ret : Option FieldType} {pc : Nat} {ins : Instr} {x : pm_A} (hl : pm_islk ins = true) (h : pm_lkc lks own nm ins x = true) : pm_wd T own nm ret pc ins x := by
  obtain ⟨a, b, z, n⟩ := x
  unfold pm_lkc at h
  split at h
  · cases h
  · split at h
    · next q hq =>
      simp only [Bool.and_eq_true, Bool.or_eq_true, decide_eq_true_eq] at h
      obtain ⟨⟨⟨h1, h2⟩, h3⟩, h4⟩ := h
      have hP := pm_lkg_P hlk hq
      obtain ⟨q1, q2, q3, q4⟩ := q
      simp only at h1 h2 h3 h4
      subst h1
      subst h3
      subst h4
      exact pm_wd_mv hl h2 hP
    · cases h
def pm_chk (lks : List (List pm_L)) (own nm : String) (ret : Option FieldType) (cc : ByteArray) (C : pm_C) : Bool := (pm_ents 0 C).all fun q => decide (decode cc q.1 = .ok (q.2.1, pm_len q.2.1 q.2.2)) && (match pm_islk q.2.1 with
  | true => pm_lkc lks own nm q.2.1 q.2.2
  | false => pm_triv ret q.1 q.2.1 q.2.2)
theorem pm_chk_ok {T : List pm_M} {lks : List (List pm_L)} (hlk : ∀ l ∈ lks, ∀ q ∈ l, pm_lkP T q) {own nm : String} {ret : Option FieldType} {cc : ByteArray} {C : pm_C} (h : pm_chk lks own nm ret cc C = true) : pm_okC T own nm ret cc C := by
  intro pc ins x hf
  have h1 := List.all_eq_true.mp h _ (pm_fetch_mem hf)
  simp only [Bool.and_eq_true, decide_eq_true_eq] at h1
  refine ⟨h1.1, ?_⟩
  have h2 := h1.2
  split at h2
  · next hl => exact pm_lkc_ok hlk hl h2
  · next hl => exact pm_triv_ok hl h2
theorem fa_cons {α : Type} {P : α → Prop} {a : α} {l : List α} (h : P a) (hl : ∀ q ∈ l, P q) : ∀ q ∈ a :: l, P q := List.forall_mem_cons.mpr ⟨h, hl⟩
theorem fa_nil {α : Type} {P : α → Prop} : ∀ q ∈ ([] : List α), P q := fun q h => absurd h List.not_mem_nil
theorem fa_app {α : Type} {P : α → Prop} {l l' : List α} (h : ∀ q ∈ l, P q) (hl : ∀ q ∈ l', P q) : ∀ q ∈ l ++ l', P q := List.forall_mem_append.mpr ⟨h, hl⟩
def pm_chkE (lks : List (List pm_L)) (own nm : String) (ret : Option FieldType) (cc : ByteArray) (E : List (Nat × Instr × pm_A)) : Bool := E.all fun q => decide (decode cc q.1 = .ok (q.2.1, pm_len q.2.1 q.2.2)) && (match pm_islk q.2.1 with
  | true => pm_lkc lks own nm q.2.1 q.2.2
  | false => pm_triv ret q.1 q.2.1 q.2.2)
theorem pm_ents_app {A C : pm_C} {i : Nat} {x : Nat × Instr × pm_A} (h : x ∈ pm_ents i (A ++ C)) : x ∈ pm_ents i A ∨ x ∈ pm_ents (i + 16 * A.length) C := by
  induction A generalizing i with
  | nil => exact Or.inr h
  | cons a A ih =>
    have h' : x ∈ pm_ents1 i a ++ pm_ents (i + 16) (A ++ C) := h
    rcases List.mem_append.mp h' with h' | h'
    · exact Or.inl (List.mem_append_left _ h')
    · rcases ih h' with h' | h'
      · exact Or.inl (List.mem_append_right _ h')
      · refine Or.inr ?_
        rw [List.length_cons, show i + 16 * (A.length + 1) = i + 16 + 16 * A.length by omega]
        exact h'
theorem pm_chkE_ok {T : List pm_M} {lks : List (List pm_L)} (hlk : ∀ l ∈ lks, ∀ q ∈ l, pm_lkP T q) {own nm : String} {ret : Option FieldType} {cc : ByteArray} {C : pm_C} (h : ∀ q ∈ pm_ents 0 C, (decide (decode cc q.1 = .ok (q.2.1, pm_len q.2.1 q.2.2)) && (match pm_islk q.2.1 with
  | true => pm_lkc lks own nm q.2.1 q.2.2
  | false => pm_triv ret q.1 q.2.1 q.2.2)) = true) : pm_okC T own nm ret cc C := by
  intro pc ins x hf
  have h1 := h _ (pm_fetch_mem hf)
  simp only [Bool.and_eq_true, decide_eq_true_eq] at h1
  refine ⟨h1.1, ?_⟩
  have h2 := h1.2
  split at h2
  · next hl => exact pm_lkc_ok hlk hl h2
  · next hl => exact pm_triv_ok hl h2

