/-! JOINED: 14.check, 14.quick -/
section
/-! A TABLE IS CHECKED by program: each row decodes so, each link is one of the proved ones -/
def pm_ents1 : Nat → List (Option (Instr × pm_A)) → List (Nat × Instr × pm_A)
  | _, [] => []
  | i, none :: l => pm_ents1 (i + 1) l
  | i, some q :: l => (i, q) :: pm_ents1 (i + 1) l
def pm_ents : Nat → pm_C → List (Nat × Instr × pm_A)
  | _, [] => []
  | i, l :: C => pm_ents1 i l ++ pm_ents (i + 16) C
theorem pm_ents1_mem : ∀ {l : List (Option (Instr × pm_A))} {i j : Nat} {q : Instr × pm_A}, pm_get l j = some (some q) → (i + j, q) ∈ pm_ents1 i l
  | [], i, j, q, h => by cases j <;> cases h
  | none :: l, i, 0, q, h => by cases h
  | none :: l, i, j + 1, q, h => by
    have := pm_ents1_mem (l := l) (i := i + 1) (j := j) h
    rw [show i + 1 + j = i + (j + 1) by omega] at this
    exact this
  | some r :: l, i, 0, q, h => by
    have : r = q := Option.some.inj (Option.some.inj h)
    subst this
    exact List.mem_cons.mpr (Or.inl rfl)
  | some r :: l, i, j + 1, q, h => by
    have := pm_ents1_mem (l := l) (i := i + 1) (j := j) h
    rw [show i + 1 + j = i + (j + 1) by omega] at this
    exact List.mem_cons_of_mem _ this
theorem pm_ents_mem : ∀ {C : pm_C} {i k : Nat} {l : List (Option (Instr × pm_A))} {x : Nat × Instr × pm_A}, pm_get C k = some l → x ∈ pm_ents1 (i + 16 * k) l → x ∈ pm_ents i C
  | [], i, k, l, x, h, _ => by cases k <;> cases h
  | r :: C, i, 0, l, x, h, hx => by
    have : r = l := Option.some.inj h
    subst this
    exact List.mem_append_left _ hx
  | r :: C, i, k + 1, l, x, h, hx => by
    refine List.mem_append_right _ (pm_ents_mem (C := C) (i := i + 16) (k := k) h ?_)
    rw [show i + 16 + 16 * k = i + 16 * (k + 1) by omega]
    exact hx
theorem pm_fetch_mem {C : pm_C} {pc : Nat} {q : Instr × pm_A} (h : pm_fetch C pc = some q) : (pc, q) ∈ pm_ents 0 C := by
  unfold pm_fetch at h
  split at h
  · next l hl =>
    split at h
    · next r hr =>
      subst h
      refine pm_ents_mem hl ?_
      have := pm_ents1_mem (i := 0 + 16 * (pc / 16)) hr
      rw [show 0 + 16 * (pc / 16) + pc % 16 = pc by omega] at this
      exact this
    · cases h
  · cases h
def pm_islk : Instr → Bool
  | .ldc _ => true
  | .ldc_w _ => true
  | .ldc2_w _ => true
  | .getstatic _ => true
  | .getfield _ => true
  | .putfield _ => true
  | .new _ => true
  | .newarray _ => true
  | .multianewarray _ _ => true
  | .invokestatic _ => true
  | .invokevirtual _ => true
  | .invokespecial _ => true
  | _ => false
def pm_triv (ret : Option FieldType) (pc : Nat) (ins : Instr) (x : pm_A) : Bool := match ins with
  | .iconst n => decide (-128 ≤ n ∧ n ≤ 127)
  | .bipush n => decide (-128 ≤ n ∧ n ≤ 127)
  | .sipush n => decide (-32768 ≤ n ∧ n ≤ 32767)
  | .ifCond _ off => decide (0 ≤ (pc : Int) + off)
  | .if_icmp _ off => decide (0 ≤ (pc : Int) + off)
  | .goto off => decide (0 ≤ (pc : Int) + off)
  | .tableswitch dflt _ _ offs => decide (0 ≤ (pc : Int) + dflt) && offs.toList.all (fun o => decide (0 ≤ (pc : Int) + o))
  | .lookupswitch dflt ps => (ps.toList.zip (ps.toList.drop 1)).all (fun (a, next) => a.1 < next.1) && decide (0 ≤ (pc : Int) + dflt) && ps.toList.all (fun q => decide (0 ≤ (pc : Int) + q.2))
  | .ireturn => (decide (x.1 = 0) && decide (ret = some .int)) || (decide (x.1 = 1) && decide (ret = some .boolean)) || (decide (x.1 = 2) && decide (ret = some .byte))
  | .lreturn => decide (ret = some .long)
  | .areturn => (match ret with
    | some (.object _) => true
    | _ => false)
  | .return_ => decide (ret = none)
  | _ => true
theorem pm_triv_ok {T : List pm_M} {own nm : String} {ret : Option FieldType} {pc : Nat} {ins : Instr} {x : pm_A} (hl : pm_islk ins = false) (h : pm_triv ret pc ins x = true) : pm_wd T own nm ret pc ins x := by
  cases ins with
  | iconst n => exact of_decide_eq_true (p := -128 ≤ n ∧ n ≤ 127) h
  | bipush n => exact of_decide_eq_true (p := -128 ≤ n ∧ n ≤ 127) h
  | sipush n => exact of_decide_eq_true (p := -32768 ≤ n ∧ n ≤ 32767) h
  | ifCond c off => exact of_decide_eq_true (p := 0 ≤ (pc : Int) + off) h
  | if_icmp c off => exact of_decide_eq_true (p := 0 ≤ (pc : Int) + off) h
  | goto off => exact of_decide_eq_true (p := 0 ≤ (pc : Int) + off) h
  | tableswitch dflt lo hi offs =>
    have h' : (decide (0 ≤ (pc : Int) + dflt) && offs.toList.all (fun o => decide (0 ≤ (pc : Int) + o))) = true := h
    rw [Bool.and_eq_true] at h'
    exact ⟨of_decide_eq_true h'.1, fun o ho => of_decide_eq_true (List.all_eq_true.mp h'.2 o ho)⟩
  | lookupswitch dflt ps =>
    have h' : ((ps.toList.zip (ps.toList.drop 1)).all (fun (a, next) => a.1 < next.1) && decide (0 ≤ (pc : Int) + dflt) && ps.toList.all (fun q => decide (0 ≤ (pc : Int) + q.2))) = true := h
    rw [Bool.and_eq_true, Bool.and_eq_true] at h'
    exact ⟨h'.1.1, of_decide_eq_true h'.1.2, fun o ho => of_decide_eq_true (List.all_eq_true.mp h'.2 o ho)⟩
  | ireturn =>
    have h' : ((decide (x.1 = 0) && decide (ret = some .int)) || (decide (x.1 = 1) && decide (ret = some .boolean)) || (decide (x.1 = 2) && decide (ret = some .byte))) = true := h
    simp only [Bool.or_eq_true, Bool.and_eq_true, decide_eq_true_eq] at h'
    rcases h' with (h' | h') | h'
    · exact Or.inl h'
    · exact Or.inr (Or.inl h')
    · exact Or.inr (Or.inr h')
  | lreturn => exact of_decide_eq_true (p := ret = some .long) h
  | areturn =>
    cases ret with
    | none => exact absurd h Bool.false_ne_true
    | some ft =>
      cases ft with
      | object n => exact ⟨n, rfl⟩
      | _ => exact absurd h Bool.false_ne_true
  | return_ => exact of_decide_eq_true (p := ret = none) h
  | ldc _ => cases hl
  | ldc_w _ => cases hl
  | ldc2_w _ => cases hl
  | getstatic _ => cases hl
  | getfield _ => cases hl
  | putfield _ => cases hl
  | new _ => cases hl
  | newarray _ => cases hl
  | multianewarray _ _ => cases hl
  | invokestatic _ => cases hl
  | invokevirtual _ => cases hl
  | invokespecial _ => cases hl
  | _ => exact trivial
abbrev pm_L : Type := String × String × Instr × Nat × Nat × Int
def pm_lkP (T : List pm_M) (q : pm_L) : Prop := pm_wd T q.1 q.2.1 none 0 q.2.2.1 (q.2.2.2.1, q.2.2.2.2.1, q.2.2.2.2.2, 0)
/-- the n-th of the links, which lie forty by forty -/
def pm_lkg (lks : List (List pm_L)) (n : Nat) : Option pm_L := match pm_get lks (n / 40) with
  | some l => pm_get l (n % 40)
  | none => none
theorem pm_lkg_P {P : pm_L → Prop} {lks : List (List pm_L)} (hlk : ∀ l ∈ lks, ∀ q ∈ l, P q) {n : Nat} {q : pm_L} (h : pm_lkg lks n = some q) : P q := by
  unfold pm_lkg at h
  split at h
  · next l hl => exact hlk l (pm_get_mem hl) q (pm_get_mem h)
  · cases h
def pm_lkc (lks : List (List pm_L)) (own nm : String) (ins : Instr) (x : pm_A) : Bool := match x.2.2.2 with
  | 0 => false
  | n + 1 => (match pm_lkg lks n with
    | some q => decide (q.1 = own) && (decide (q.2.1 = "") || decide (q.2.1 = nm)) && decide (q.2.2.1 = ins) && decide (q.2.2.2 = (x.1, x.2.1, x.2.2.1))
    | none => false)
theorem pm_wd_mv {T : List pm_M} {own nm0 nm : String} {ret : Option FieldType} {pc n : Nat} {ins : Instr} {a b : Nat} {z : Int} (hl : pm_islk ins = true) (hn : nm0 = "" ∨ nm0 = nm) (h : pm_wd T own nm0 none 0 ins (a, b, z, 0)) : pm_wd T own nm ret pc ins (a, b, z, n) := by
  cases ins with
  | putfield idx =>
    obtain ⟨r, h1, h2, h3, h4⟩ := h
    refine ⟨r, h1, h2, h3, ?_⟩
    rcases h4 with h4 | ⟨h4, h5, h6⟩
    · exact Or.inl h4
    · rcases hn with rfl | rfl
      · exact absurd h5 (by decide)
      · exact Or.inr ⟨h4, h5, h6⟩
  | ldc _ => exact h
  | ldc_w _ => exact h
  | ldc2_w _ => exact h
  | getstatic _ => exact h
  | getfield _ => exact h
  | new _ => exact h
  | newarray _ => exact h
  | multianewarray _ _ => exact h
  | invokestatic _ => exact h
  | invokevirtual _ => exact h
  | invokespecial _ => exact h
  | _ => cases hl
theorem pm_lkc_ok {T : List pm_M} {lks : List (List pm_L)} (hlk : ∀ l ∈ lks, ∀ q ∈ l, pm_lkP T q) {own nm : String} {ret : Option FieldType} {pc : Nat} {ins : Instr} {x : pm_A} (hl : pm_islk ins = true) (h : pm_lkc lks own nm ins x = true) : pm_wd T own nm ret pc ins x := by
  obtain ⟨a, b, z, n⟩ := x
  unfold pm_lkc at h
  split at h
  · cases h
  · split at h
    · next q hq =>
      simp only [Bool.and_eq_true, Bool.or_eq_true, decide_eq_true_eq] at h
      obtain ⟨⟨⟨h1, h2⟩, h3⟩, h4⟩ := h
      have hP := pm_lkg_P hlk hq
      obtain ⟨q1, q2, q3, q4⟩ := q
      simp only at h1 h2 h3 h4
      subst h1
      subst h3
      subst h4
      exact pm_wd_mv hl h2 hP
    · cases h
theorem fa_cons {α : Type} {P : α → Prop} {a : α} {l : List α} (h : P a) (hl : ∀ q ∈ l, P q) : ∀ q ∈ a :: l, P q := List.forall_mem_cons.mpr ⟨h, hl⟩
theorem fa_nil {α : Type} {P : α → Prop} : ∀ q ∈ ([] : List α), P q := fun q h => absurd h List.not_mem_nil
theorem fa_app {α : Type} {P : α → Prop} {l l' : List α} (h : ∀ q ∈ l, P q) (hl : ∀ q ∈ l', P q) : ∀ q ∈ l ++ l', P q := List.forall_mem_append.mpr ⟨h, hl⟩
end
section
/-! READING QUICKLY (written by wip/gen_quick.py): the bytes of a method are walked once, beside its table -/
theorem fd_at0 {L l : List UInt8} {p : Nat} {b : UInt8} (h : L.drop p = b :: l) : L[p]? = some b := by
  have h1 := congrArg List.head? h
  rw [List.head?_drop] at h1
  exact h1
theorem fd_at1 {L l : List UInt8} {p : Nat} {b : UInt8} (h : L.drop p = b :: l) : L.drop (p + 1) = l := by
  have h1 := congrArg List.tail h
  rw [List.tail_drop] at h1
  exact h1
theorem fd_u1 {cc : ByteArray} {l : List UInt8} {p : Nat} {b : UInt8} (h : cc.data.toList.drop p = b :: l) : Reader.runAt (Reader.u1 : Decoder Nat) cc p = .ok (b.toNat, p + 1) := by
  obtain ⟨hp, hb⟩ := List.getElem?_eq_some_iff.mp (fd_at0 h)
  obtain ⟨d⟩ := cc
  have hp' : p < d.size := hp
  have hb' : d[p]'hp' = b := hb
  have e : Reader.runAt (Reader.u1 : Decoder Nat) ⟨d⟩ p = Reader.runAt (dite (p < (⟨d⟩ : ByteArray).size) (fun h => (do set (p + 1); pure ((⟨d⟩ : ByteArray)[p]'h).toNat : Decoder Nat)) (fun _ => (throw (HasTruncated.truncated p) : Decoder Nat))) ⟨d⟩ p := rfl
  rw [e, dif_pos (show p < (⟨d⟩ : ByteArray).size from hp')]
  show (Except.ok ((d[p]'hp').toNat, p + 1) : Except DecodeError (Nat × Nat)) = _
  rw [hb']
theorem fd_bind {α β : Type} {r : Decoder α} {f : α → Decoder β} {cc : ByteArray} {p q : Nat} {a : α} (h : Reader.runAt r cc p = .ok (a, q)) : Reader.runAt (r >>= f) cc p = Reader.runAt (f a) cc q := by
  have e : Reader.runAt (r >>= f) cc p = Except.bind (Reader.runAt r cc p) (fun x => Reader.runAt (f x.1) cc x.2) := rfl
  rw [e, h]
  rfl
theorem fd_map {α β : Type} {r : Decoder α} {g : α → β} {cc : ByteArray} {p q : Nat} {a : α} (h : Reader.runAt r cc p = .ok (a, q)) : Reader.runAt (g <$> r : Decoder β) cc p = .ok (g a, q) := by
  have e : Reader.runAt (g <$> r : Decoder β) cc p = Except.bind (Reader.runAt r cc p) (fun x => .ok (g x.1, x.2)) := rfl
  rw [e, h]
  rfl
theorem fd_s1 {cc : ByteArray} {l : List UInt8} {p : Nat} {b : UInt8} (h : cc.data.toList.drop p = b :: l) : Reader.runAt (Reader.s1 : Decoder Int) cc p = .ok (Reader.signed 8 b.toNat, p + 1) := fd_map (fd_u1 h)
theorem fd_u2 {cc : ByteArray} {l : List UInt8} {p : Nat} {a b : UInt8} (h : cc.data.toList.drop p = a :: b :: l) : Reader.runAt (Reader.u2 : Decoder Nat) cc p = .ok (a.toNat * 256 + b.toNat, p + 2) := by
  show Reader.runAt (Reader.u1 >>= fun hi => Reader.u1 >>= fun lo => pure (hi * 256 + lo) : Decoder Nat) cc p = _
  rw [fd_bind (fd_u1 h), fd_bind (fd_u1 (fd_at1 h))]
  rfl
theorem fd_s2 {cc : ByteArray} {l : List UInt8} {p : Nat} {a b : UInt8} (h : cc.data.toList.drop p = a :: b :: l) : Reader.runAt (Reader.s2 : Decoder Int) cc p = .ok (Reader.signed 16 (a.toNat * 256 + b.toNat), p + 2) := fd_map (fd_u2 h)
def fd_R (pc k : Nat) (r : Decoder Instr) : Prop := ∃ F : Nat → Decoder Instr, Decoder.instr pc = (Reader.u1 >>= F) ∧ F k = r
theorem fd_op {cc : ByteArray} {l : List UInt8} {pc k n : Nat} {op : UInt8} {I : Instr} {r : Decoder Instr} (hF : fd_R pc k r) (h : cc.data.toList.drop pc = op :: l) (hk : op.toNat = k) (hr : Reader.runAt r cc (pc + 1) = .ok (I, pc + n)) : decode cc pc = .ok (I, n) := by
  obtain ⟨F, h1, h2⟩ := hF
  have e : decode cc pc = Except.bind (Reader.runAt (Decoder.instr pc) cc pc) (fun x => .ok (x.1, x.2 - pc)) := rfl
  rw [e, h1, fd_bind (fd_u1 h), hk, h2, hr]
  show (Except.ok (I, pc + n - pc) : Except DecodeError (Instr × Nat)) = _
  rw [Nat.add_sub_cancel_left]
def fd_b0 (k : Nat) (l : List UInt8) : Bool := match l with
  | a :: _ => Nat.beq a.toNat k
  | _ => false
def fd_b1 (k n : Nat) (l : List UInt8) : Bool := match l with
  | a :: b :: _ => Nat.beq a.toNat k && Nat.beq b.toNat n
  | _ => false
def fd_b2 (k n : Nat) (l : List UInt8) : Bool := match l with
  | a :: b :: c :: _ => Nat.beq a.toNat k && Nat.beq (b.toNat * 256 + c.toNat) n
  | _ => false
def fd_b3 (k : Nat) (z : Int) (l : List UInt8) : Bool := match l with
  | a :: b :: _ => Nat.beq a.toNat k && decide (Reader.signed 8 b.toNat = z)
  | _ => false
def fd_b4 (k : Nat) (z : Int) (l : List UInt8) : Bool := match l with
  | a :: b :: c :: _ => Nat.beq a.toNat k && decide (Reader.signed 16 (b.toNat * 256 + c.toNat) = z)
  | _ => false
def fd_b5 (n : Nat) (z : Int) (l : List UInt8) : Bool := match l with
  | a :: b :: c :: _ => Nat.beq a.toNat 132 && (Nat.beq b.toNat n && decide (Reader.signed 8 c.toNat = z))
  | _ => false
section
variable {cc : ByteArray} {l : List UInt8} {pc k n : Nat} {z : Int} {I : Instr} {C : Nat → Instr} {D : Int → Instr}
theorem fd_b0_ok (hF : fd_R pc k (pure I)) (hl : cc.data.toList.drop pc = l) (h : fd_b0 k l = true) : decode cc pc = .ok (I, 1) := by
  match l, hl, h with
  | a :: l, hl, h => exact fd_op hF hl (Nat.eq_of_beq_eq_true h) rfl
  | [], _, h => exact absurd h Bool.false_ne_true
theorem fd_b1_ok (hF : fd_R pc k (Reader.u1 >>= fun x => pure (C x))) (hl : cc.data.toList.drop pc = l) (h : fd_b1 k n l = true) : decode cc pc = .ok (C n, 2) := by
  match l, hl, h with
  | a :: b :: l, hl, h =>
    have h' : (Nat.beq a.toNat k && Nat.beq b.toNat n) = true := h
    rw [Bool.and_eq_true] at h'
    rw [← Nat.eq_of_beq_eq_true h'.2]
    exact fd_op hF hl (Nat.eq_of_beq_eq_true h'.1) ((fd_bind (fd_u1 (fd_at1 hl))).trans rfl)
  | [_], _, h => exact absurd h Bool.false_ne_true
  | [], _, h => exact absurd h Bool.false_ne_true
theorem fd_b2_ok (hF : fd_R pc k (Reader.u2 >>= fun x => pure (C x))) (hl : cc.data.toList.drop pc = l) (h : fd_b2 k n l = true) : decode cc pc = .ok (C n, 3) := by
  match l, hl, h with
  | a :: b :: c :: l, hl, h =>
    have h' : (Nat.beq a.toNat k && Nat.beq (b.toNat * 256 + c.toNat) n) = true := h
    rw [Bool.and_eq_true] at h'
    rw [← Nat.eq_of_beq_eq_true h'.2]
    exact fd_op hF hl (Nat.eq_of_beq_eq_true h'.1) ((fd_bind (fd_u2 (fd_at1 hl))).trans rfl)
  | [_, _], _, h => exact absurd h Bool.false_ne_true
  | [_], _, h => exact absurd h Bool.false_ne_true
  | [], _, h => exact absurd h Bool.false_ne_true
theorem fd_b3_ok (hF : fd_R pc k (Reader.s1 >>= fun x => pure (D x))) (hl : cc.data.toList.drop pc = l) (h : fd_b3 k z l = true) : decode cc pc = .ok (D z, 2) := by
  match l, hl, h with
  | a :: b :: l, hl, h =>
    have h' : (Nat.beq a.toNat k && decide (Reader.signed 8 b.toNat = z)) = true := h
    rw [Bool.and_eq_true] at h'
    rw [← of_decide_eq_true h'.2]
    exact fd_op hF hl (Nat.eq_of_beq_eq_true h'.1) ((fd_bind (fd_s1 (fd_at1 hl))).trans rfl)
  | [_], _, h => exact absurd h Bool.false_ne_true
  | [], _, h => exact absurd h Bool.false_ne_true
theorem fd_b4_ok (hF : fd_R pc k (Reader.s2 >>= fun x => pure (D x))) (hl : cc.data.toList.drop pc = l) (h : fd_b4 k z l = true) : decode cc pc = .ok (D z, 3) := by
  match l, hl, h with
  | a :: b :: c :: l, hl, h =>
    have h' : (Nat.beq a.toNat k && decide (Reader.signed 16 (b.toNat * 256 + c.toNat) = z)) = true := h
    rw [Bool.and_eq_true] at h'
    rw [← of_decide_eq_true h'.2]
    exact fd_op hF hl (Nat.eq_of_beq_eq_true h'.1) ((fd_bind (fd_s2 (fd_at1 hl))).trans rfl)
  | [_, _], _, h => exact absurd h Bool.false_ne_true
  | [_], _, h => exact absurd h Bool.false_ne_true
  | [], _, h => exact absurd h Bool.false_ne_true
theorem fd_b5_ok (hl : cc.data.toList.drop pc = l) (h : fd_b5 n z l = true) : decode cc pc = .ok (.iinc n z, 3) := by
  match l, hl, h with
  | a :: b :: c :: l, hl, h =>
    have h' : (Nat.beq a.toNat 132 && (Nat.beq b.toNat n && decide (Reader.signed 8 c.toNat = z))) = true := h
    rw [Bool.and_eq_true, Bool.and_eq_true] at h'
    rw [← Nat.eq_of_beq_eq_true h'.2.1, ← of_decide_eq_true h'.2.2]
    exact fd_op (r := Reader.u1 >>= fun x => Reader.s1 >>= fun y => pure (.iinc x y)) ⟨_, rfl, rfl⟩ hl (Nat.eq_of_beq_eq_true h'.1) ((fd_bind (fd_u1 (fd_at1 hl))).trans ((fd_bind (fd_s1 (fd_at1 (fd_at1 hl)))).trans rfl))
  | [_, _], _, h => exact absurd h Bool.false_ne_true
  | [_], _, h => exact absurd h Bool.false_ne_true
  | [], _, h => exact absurd h Bool.false_ne_true
theorem fd_b6_ok {t : ArrayType} (hF : fd_R pc 188 (Decoder.newarray pc)) (hG : ∃ G : Nat → Decoder Instr, Decoder.newarray pc = (Reader.u1 >>= G) ∧ G n = (Pure.pure (Instr.newarray t) : Decoder Instr)) (hl : cc.data.toList.drop pc = l) (h : fd_b1 188 n l = true) : decode cc pc = .ok (.newarray t, 2) := by
  match l, hl, h with
  | a :: b :: l, hl, h =>
    have h' : (Nat.beq a.toNat 188 && Nat.beq b.toNat n) = true := h
    rw [Bool.and_eq_true] at h'
    obtain ⟨G, g1, g2⟩ := hG
    refine fd_op hF hl (Nat.eq_of_beq_eq_true h'.1) ?_
    rw [g1, fd_bind (fd_u1 (fd_at1 hl)), Nat.eq_of_beq_eq_true h'.2, g2]
    rfl
  | [_], _, h => exact absurd h Bool.false_ne_true
  | [], _, h => exact absurd h Bool.false_ne_true
end
def fd_cn (c : Jvm.ClassFile.Cond) : Nat := match c with
  | .eq => 0
  | .ne => 1
  | .lt => 2
  | .ge => 3
  | .gt => 4
  | .le => 5
def fd_ty (t : ArrayType) : Nat := match t with
  | .boolean => 4
  | .char => 5
  | .float => 6
  | .double => 7
  | .byte => 8
  | .short => 9
  | .int => 10
  | .long => 11
def fd_i (I : Instr) (l : List UInt8) : Bool := match I with
  | .iload_n n => fd_b0 (26 + n.val) l
  | .lload_n n => fd_b0 (30 + n.val) l
  | .aload_n n => fd_b0 (42 + n.val) l
  | .istore_n n => fd_b0 (59 + n.val) l
  | .lstore_n n => fd_b0 (63 + n.val) l
  | .astore_n n => fd_b0 (75 + n.val) l
  | .lconst n => fd_b0 (9 + n.val) l
  | .iconst z => (match z with
    | .ofNat n => Nat.ble n 5 && fd_b0 (3 + n) l
    | .negSucc n => Nat.beq n 0 && fd_b0 2 l)
  | .iaload => fd_b0 46 l
  | .laload => fd_b0 47 l
  | .aaload => fd_b0 50 l
  | .baload => fd_b0 51 l
  | .iastore => fd_b0 79 l
  | .lastore => fd_b0 80 l
  | .aastore => fd_b0 83 l
  | .bastore => fd_b0 84 l
  | .pop => fd_b0 87 l
  | .pop2 => fd_b0 88 l
  | .dup => fd_b0 89 l
  | .dup2 => fd_b0 92 l
  | .iadd => fd_b0 96 l
  | .ladd => fd_b0 97 l
  | .isub => fd_b0 100 l
  | .lsub => fd_b0 101 l
  | .imul => fd_b0 104 l
  | .lmul => fd_b0 105 l
  | .idiv => fd_b0 108 l
  | .irem => fd_b0 112 l
  | .ineg => fd_b0 116 l
  | .ishl => fd_b0 120 l
  | .lshl => fd_b0 121 l
  | .ishr => fd_b0 122 l
  | .iushr => fd_b0 124 l
  | .iand => fd_b0 126 l
  | .land => fd_b0 127 l
  | .ior => fd_b0 128 l
  | .lor => fd_b0 129 l
  | .ixor => fd_b0 130 l
  | .i2l => fd_b0 133 l
  | .l2i => fd_b0 136 l
  | .i2b => fd_b0 145 l
  | .i2c => fd_b0 146 l
  | .i2s => fd_b0 147 l
  | .lcmp => fd_b0 148 l
  | .ireturn => fd_b0 172 l
  | .lreturn => fd_b0 173 l
  | .areturn => fd_b0 176 l
  | .return_ => fd_b0 177 l
  | .arraylength => fd_b0 190 l
  | .ldc n => fd_b1 18 n l
  | .iload n => fd_b1 21 n l
  | .lload n => fd_b1 22 n l
  | .aload n => fd_b1 25 n l
  | .istore n => fd_b1 54 n l
  | .lstore n => fd_b1 55 n l
  | .astore n => fd_b1 58 n l
  | .ldc_w n => fd_b2 19 n l
  | .ldc2_w n => fd_b2 20 n l
  | .getstatic n => fd_b2 178 n l
  | .getfield n => fd_b2 180 n l
  | .putfield n => fd_b2 181 n l
  | .invokevirtual n => fd_b2 182 n l
  | .invokespecial n => fd_b2 183 n l
  | .invokestatic n => fd_b2 184 n l
  | .new n => fd_b2 187 n l
  | .bipush z => fd_b3 16 z l
  | .sipush z => fd_b4 17 z l
  | .goto z => fd_b4 167 z l
  | .ifCond c z => fd_b4 (153 + fd_cn c) z l
  | .if_icmp c z => fd_b4 (159 + fd_cn c) z l
  | .iinc n z => fd_b5 n z l
  | .newarray t => fd_b1 188 (fd_ty t) l
  | _ => false
theorem fd_i_ok {cc : ByteArray} {l : List UInt8} {pc : Nat} {I : Instr} {x : pm_A} (hl : cc.data.toList.drop pc = l) (h : fd_i I l = true) : decode cc pc = .ok (I, pm_len I x) := by
  cases I with
  | iload_n n =>
    match n, h with
    | ⟨0, _⟩, h => exact fd_b0_ok (k := 26) ⟨_, rfl, rfl⟩ hl h
    | ⟨1, _⟩, h => exact fd_b0_ok (k := 27) ⟨_, rfl, rfl⟩ hl h
    | ⟨2, _⟩, h => exact fd_b0_ok (k := 28) ⟨_, rfl, rfl⟩ hl h
    | ⟨3, _⟩, h => exact fd_b0_ok (k := 29) ⟨_, rfl, rfl⟩ hl h
    | ⟨n + 4, hn⟩, _ => exact absurd hn (by omega)
  | lload_n n =>
    match n, h with
    | ⟨0, _⟩, h => exact fd_b0_ok (k := 30) ⟨_, rfl, rfl⟩ hl h
    | ⟨1, _⟩, h => exact fd_b0_ok (k := 31) ⟨_, rfl, rfl⟩ hl h
    | ⟨2, _⟩, h => exact fd_b0_ok (k := 32) ⟨_, rfl, rfl⟩ hl h
    | ⟨3, _⟩, h => exact fd_b0_ok (k := 33) ⟨_, rfl, rfl⟩ hl h
    | ⟨n + 4, hn⟩, _ => exact absurd hn (by omega)
  | aload_n n =>
    match n, h with
    | ⟨0, _⟩, h => exact fd_b0_ok (k := 42) ⟨_, rfl, rfl⟩ hl h
    | ⟨1, _⟩, h => exact fd_b0_ok (k := 43) ⟨_, rfl, rfl⟩ hl h
    | ⟨2, _⟩, h => exact fd_b0_ok (k := 44) ⟨_, rfl, rfl⟩ hl h
    | ⟨3, _⟩, h => exact fd_b0_ok (k := 45) ⟨_, rfl, rfl⟩ hl h
    | ⟨n + 4, hn⟩, _ => exact absurd hn (by omega)
  | istore_n n =>
    match n, h with
    | ⟨0, _⟩, h => exact fd_b0_ok (k := 59) ⟨_, rfl, rfl⟩ hl h
    | ⟨1, _⟩, h => exact fd_b0_ok (k := 60) ⟨_, rfl, rfl⟩ hl h
    | ⟨2, _⟩, h => exact fd_b0_ok (k := 61) ⟨_, rfl, rfl⟩ hl h
    | ⟨3, _⟩, h => exact fd_b0_ok (k := 62) ⟨_, rfl, rfl⟩ hl h
    | ⟨n + 4, hn⟩, _ => exact absurd hn (by omega)
  | lstore_n n =>
    match n, h with
    | ⟨0, _⟩, h => exact fd_b0_ok (k := 63) ⟨_, rfl, rfl⟩ hl h
    | ⟨1, _⟩, h => exact fd_b0_ok (k := 64) ⟨_, rfl, rfl⟩ hl h
    | ⟨2, _⟩, h => exact fd_b0_ok (k := 65) ⟨_, rfl, rfl⟩ hl h
    | ⟨3, _⟩, h => exact fd_b0_ok (k := 66) ⟨_, rfl, rfl⟩ hl h
    | ⟨n + 4, hn⟩, _ => exact absurd hn (by omega)
  | astore_n n =>
    match n, h with
    | ⟨0, _⟩, h => exact fd_b0_ok (k := 75) ⟨_, rfl, rfl⟩ hl h
    | ⟨1, _⟩, h => exact fd_b0_ok (k := 76) ⟨_, rfl, rfl⟩ hl h
    | ⟨2, _⟩, h => exact fd_b0_ok (k := 77) ⟨_, rfl, rfl⟩ hl h
    | ⟨3, _⟩, h => exact fd_b0_ok (k := 78) ⟨_, rfl, rfl⟩ hl h
    | ⟨n + 4, hn⟩, _ => exact absurd hn (by omega)
  | lconst n =>
    match n, h with
    | ⟨0, _⟩, h => exact fd_b0_ok (k := 9) ⟨_, rfl, rfl⟩ hl h
    | ⟨1, _⟩, h => exact fd_b0_ok (k := 10) ⟨_, rfl, rfl⟩ hl h
    | ⟨n + 2, hn⟩, _ => exact absurd hn (by omega)
  | iconst z =>
    match z, h with
    | .ofNat n, h =>
      have h' : (Nat.ble n 5 && fd_b0 (3 + n) l) = true := h
      rw [Bool.and_eq_true] at h'
      have h1 : n ≤ 5 := Nat.le_of_ble_eq_true h'.1
      match n, h1, h'.2 with
      | 0, _, h => exact fd_b0_ok (k := 3) ⟨_, rfl, rfl⟩ hl h
      | 1, _, h => exact fd_b0_ok (k := 4) ⟨_, rfl, rfl⟩ hl h
      | 2, _, h => exact fd_b0_ok (k := 5) ⟨_, rfl, rfl⟩ hl h
      | 3, _, h => exact fd_b0_ok (k := 6) ⟨_, rfl, rfl⟩ hl h
      | 4, _, h => exact fd_b0_ok (k := 7) ⟨_, rfl, rfl⟩ hl h
      | 5, _, h => exact fd_b0_ok (k := 8) ⟨_, rfl, rfl⟩ hl h
      | n + 6, h1, _ => exact absurd h1 (by omega)
    | .negSucc n, h =>
      have h' : (Nat.beq n 0 && fd_b0 2 l) = true := h
      rw [Bool.and_eq_true] at h'
      have h1 : n = 0 := Nat.eq_of_beq_eq_true h'.1
      subst h1
      exact fd_b0_ok (k := 2) ⟨_, rfl, rfl⟩ hl h'.2
  | iaload => exact fd_b0_ok (k := 46) ⟨_, rfl, rfl⟩ hl h
  | laload => exact fd_b0_ok (k := 47) ⟨_, rfl, rfl⟩ hl h
  | aaload => exact fd_b0_ok (k := 50) ⟨_, rfl, rfl⟩ hl h
  | baload => exact fd_b0_ok (k := 51) ⟨_, rfl, rfl⟩ hl h
  | iastore => exact fd_b0_ok (k := 79) ⟨_, rfl, rfl⟩ hl h
  | lastore => exact fd_b0_ok (k := 80) ⟨_, rfl, rfl⟩ hl h
  | aastore => exact fd_b0_ok (k := 83) ⟨_, rfl, rfl⟩ hl h
  | bastore => exact fd_b0_ok (k := 84) ⟨_, rfl, rfl⟩ hl h
  | pop => exact fd_b0_ok (k := 87) ⟨_, rfl, rfl⟩ hl h
  | pop2 => exact fd_b0_ok (k := 88) ⟨_, rfl, rfl⟩ hl h
  | dup => exact fd_b0_ok (k := 89) ⟨_, rfl, rfl⟩ hl h
  | dup2 => exact fd_b0_ok (k := 92) ⟨_, rfl, rfl⟩ hl h
  | iadd => exact fd_b0_ok (k := 96) ⟨_, rfl, rfl⟩ hl h
  | ladd => exact fd_b0_ok (k := 97) ⟨_, rfl, rfl⟩ hl h
  | isub => exact fd_b0_ok (k := 100) ⟨_, rfl, rfl⟩ hl h
  | lsub => exact fd_b0_ok (k := 101) ⟨_, rfl, rfl⟩ hl h
  | imul => exact fd_b0_ok (k := 104) ⟨_, rfl, rfl⟩ hl h
  | lmul => exact fd_b0_ok (k := 105) ⟨_, rfl, rfl⟩ hl h
  | idiv => exact fd_b0_ok (k := 108) ⟨_, rfl, rfl⟩ hl h
  | irem => exact fd_b0_ok (k := 112) ⟨_, rfl, rfl⟩ hl h
  | ineg => exact fd_b0_ok (k := 116) ⟨_, rfl, rfl⟩ hl h
  | ishl => exact fd_b0_ok (k := 120) ⟨_, rfl, rfl⟩ hl h
  | lshl => exact fd_b0_ok (k := 121) ⟨_, rfl, rfl⟩ hl h
  | ishr => exact fd_b0_ok (k := 122) ⟨_, rfl, rfl⟩ hl h
  | iushr => exact fd_b0_ok (k := 124) ⟨_, rfl, rfl⟩ hl h
  | iand => exact fd_b0_ok (k := 126) ⟨_, rfl, rfl⟩ hl h
  | land => exact fd_b0_ok (k := 127) ⟨_, rfl, rfl⟩ hl h
  | ior => exact fd_b0_ok (k := 128) ⟨_, rfl, rfl⟩ hl h
  | lor => exact fd_b0_ok (k := 129) ⟨_, rfl, rfl⟩ hl h
  | ixor => exact fd_b0_ok (k := 130) ⟨_, rfl, rfl⟩ hl h
  | i2l => exact fd_b0_ok (k := 133) ⟨_, rfl, rfl⟩ hl h
  | l2i => exact fd_b0_ok (k := 136) ⟨_, rfl, rfl⟩ hl h
  | i2b => exact fd_b0_ok (k := 145) ⟨_, rfl, rfl⟩ hl h
  | i2c => exact fd_b0_ok (k := 146) ⟨_, rfl, rfl⟩ hl h
  | i2s => exact fd_b0_ok (k := 147) ⟨_, rfl, rfl⟩ hl h
  | lcmp => exact fd_b0_ok (k := 148) ⟨_, rfl, rfl⟩ hl h
  | ireturn => exact fd_b0_ok (k := 172) ⟨_, rfl, rfl⟩ hl h
  | lreturn => exact fd_b0_ok (k := 173) ⟨_, rfl, rfl⟩ hl h
  | areturn => exact fd_b0_ok (k := 176) ⟨_, rfl, rfl⟩ hl h
  | return_ => exact fd_b0_ok (k := 177) ⟨_, rfl, rfl⟩ hl h
  | arraylength => exact fd_b0_ok (k := 190) ⟨_, rfl, rfl⟩ hl h
  | ldc n => exact fd_b1_ok (k := 18) (C := .ldc) ⟨_, rfl, rfl⟩ hl h
  | iload n => exact fd_b1_ok (k := 21) (C := .iload) ⟨_, rfl, rfl⟩ hl h
  | lload n => exact fd_b1_ok (k := 22) (C := .lload) ⟨_, rfl, rfl⟩ hl h
  | aload n => exact fd_b1_ok (k := 25) (C := .aload) ⟨_, rfl, rfl⟩ hl h
  | istore n => exact fd_b1_ok (k := 54) (C := .istore) ⟨_, rfl, rfl⟩ hl h
  | lstore n => exact fd_b1_ok (k := 55) (C := .lstore) ⟨_, rfl, rfl⟩ hl h
  | astore n => exact fd_b1_ok (k := 58) (C := .astore) ⟨_, rfl, rfl⟩ hl h
  | ldc_w n => exact fd_b2_ok (k := 19) (C := .ldc_w) ⟨_, rfl, rfl⟩ hl h
  | ldc2_w n => exact fd_b2_ok (k := 20) (C := .ldc2_w) ⟨_, rfl, rfl⟩ hl h
  | getstatic n => exact fd_b2_ok (k := 178) (C := .getstatic) ⟨_, rfl, rfl⟩ hl h
  | getfield n => exact fd_b2_ok (k := 180) (C := .getfield) ⟨_, rfl, rfl⟩ hl h
  | putfield n => exact fd_b2_ok (k := 181) (C := .putfield) ⟨_, rfl, rfl⟩ hl h
  | invokevirtual n => exact fd_b2_ok (k := 182) (C := .invokevirtual) ⟨_, rfl, rfl⟩ hl h
  | invokespecial n => exact fd_b2_ok (k := 183) (C := .invokespecial) ⟨_, rfl, rfl⟩ hl h
  | invokestatic n => exact fd_b2_ok (k := 184) (C := .invokestatic) ⟨_, rfl, rfl⟩ hl h
  | new n => exact fd_b2_ok (k := 187) (C := .new) ⟨_, rfl, rfl⟩ hl h
  | bipush z => exact fd_b3_ok (k := 16) (D := .bipush) ⟨_, rfl, rfl⟩ hl h
  | sipush z => exact fd_b4_ok (k := 17) (D := .sipush) ⟨_, rfl, rfl⟩ hl h
  | goto z => exact fd_b4_ok (k := 167) (D := .goto) ⟨_, rfl, rfl⟩ hl h
  | ifCond c z =>
    match c, h with
    | .eq, h => exact fd_b4_ok (k := 153) (D := .ifCond .eq) ⟨_, rfl, rfl⟩ hl h
    | .ne, h => exact fd_b4_ok (k := 154) (D := .ifCond .ne) ⟨_, rfl, rfl⟩ hl h
    | .lt, h => exact fd_b4_ok (k := 155) (D := .ifCond .lt) ⟨_, rfl, rfl⟩ hl h
    | .ge, h => exact fd_b4_ok (k := 156) (D := .ifCond .ge) ⟨_, rfl, rfl⟩ hl h
    | .gt, h => exact fd_b4_ok (k := 157) (D := .ifCond .gt) ⟨_, rfl, rfl⟩ hl h
    | .le, h => exact fd_b4_ok (k := 158) (D := .ifCond .le) ⟨_, rfl, rfl⟩ hl h
  | if_icmp c z =>
    match c, h with
    | .eq, h => exact fd_b4_ok (k := 159) (D := .if_icmp .eq) ⟨_, rfl, rfl⟩ hl h
    | .ne, h => exact fd_b4_ok (k := 160) (D := .if_icmp .ne) ⟨_, rfl, rfl⟩ hl h
    | .lt, h => exact fd_b4_ok (k := 161) (D := .if_icmp .lt) ⟨_, rfl, rfl⟩ hl h
    | .ge, h => exact fd_b4_ok (k := 162) (D := .if_icmp .ge) ⟨_, rfl, rfl⟩ hl h
    | .gt, h => exact fd_b4_ok (k := 163) (D := .if_icmp .gt) ⟨_, rfl, rfl⟩ hl h
    | .le, h => exact fd_b4_ok (k := 164) (D := .if_icmp .le) ⟨_, rfl, rfl⟩ hl h
  | iinc n z => exact fd_b5_ok hl h
  | newarray t =>
    match t, h with
    | .boolean, h => exact fd_b6_ok (n := 4) ⟨_, rfl, rfl⟩ ⟨_, rfl, rfl⟩ hl h
    | .char, h => exact fd_b6_ok (n := 5) ⟨_, rfl, rfl⟩ ⟨_, rfl, rfl⟩ hl h
    | .float, h => exact fd_b6_ok (n := 6) ⟨_, rfl, rfl⟩ ⟨_, rfl, rfl⟩ hl h
    | .double, h => exact fd_b6_ok (n := 7) ⟨_, rfl, rfl⟩ ⟨_, rfl, rfl⟩ hl h
    | .byte, h => exact fd_b6_ok (n := 8) ⟨_, rfl, rfl⟩ ⟨_, rfl, rfl⟩ hl h
    | .short, h => exact fd_b6_ok (n := 9) ⟨_, rfl, rfl⟩ ⟨_, rfl, rfl⟩ hl h
    | .int, h => exact fd_b6_ok (n := 10) ⟨_, rfl, rfl⟩ ⟨_, rfl, rfl⟩ hl h
    | .long, h => exact fd_b6_ok (n := 11) ⟨_, rfl, rfl⟩ ⟨_, rfl, rfl⟩ hl h
  | _ => exact absurd h Bool.false_ne_true
/-- what the table's row says, but for its bytes -/
def fd_x (lks : List (List pm_L)) (own nm : String) (ret : Option FieldType) (q : Nat × Instr × pm_A) : Bool := match pm_islk q.2.1 with
  | true => pm_lkc lks own nm q.2.1 q.2.2
  | false => pm_triv ret q.1 q.2.1 q.2.2
def fd_k (lks : List (List pm_L)) (own nm : String) (ret : Option FieldType) (cc : ByteArray) : Nat → List (Option (Instr × pm_A)) → List UInt8 → Bool
  | _, [], _ => true
  | i, none :: l, bs => fd_k lks own nm ret cc (i + 1) l bs.tail
  | i, some q :: l, bs => (fd_i q.1 bs || decide (decode cc i = .ok (q.1, pm_len q.1 q.2))) && (fd_x lks own nm ret (i, q) && fd_k lks own nm ret cc (i + 1) l bs.tail)
def fd_C (lks : List (List pm_L)) (own nm : String) (ret : Option FieldType) (cc : ByteArray) : Nat → pm_C → List UInt8 → Bool
  | _, [], _ => true
  | i, c :: C, bs => fd_k lks own nm ret cc i c bs && fd_C lks own nm ret cc (i + 16) C (bs.drop 16)
theorem fd_k_ok {lks : List (List pm_L)} {own nm : String} {ret : Option FieldType} {cc : ByteArray} : ∀ {l : List (Option (Instr × pm_A))} {i : Nat} {bs : List UInt8}, cc.data.toList.drop i = bs → fd_k lks own nm ret cc i l bs = true → ∀ x ∈ pm_ents1 i l, decode cc x.1 = .ok (x.2.1, pm_len x.2.1 x.2.2) ∧ fd_x lks own nm ret x = true
  | [], _, _, _, _, _, hx => absurd hx List.not_mem_nil
  | none :: l, i, bs, hb, h, x, hx => fd_k_ok (l := l) (i := i + 1) (bs := bs.tail) (by rw [← hb, List.tail_drop]) h x hx
  | some q :: l, i, bs, hb, h, x, hx => by
    have h' : ((fd_i q.1 bs || decide (decode cc i = .ok (q.1, pm_len q.1 q.2))) && (fd_x lks own nm ret (i, q) && fd_k lks own nm ret cc (i + 1) l bs.tail)) = true := h
    rw [Bool.and_eq_true, Bool.and_eq_true, Bool.or_eq_true] at h'
    have hx' : x ∈ (i, q) :: pm_ents1 (i + 1) l := hx
    rcases List.mem_cons.mp hx' with hx' | hx'
    · subst hx'
      refine ⟨?_, h'.2.1⟩
      rcases h'.1 with h1 | h1
      · exact fd_i_ok hb h1
      · exact of_decide_eq_true h1
    · exact fd_k_ok (bs := bs.tail) (by rw [← hb, List.tail_drop]) h'.2.2 x hx'
theorem fd_C_ok {lks : List (List pm_L)} {own nm : String} {ret : Option FieldType} {cc : ByteArray} : ∀ {C : pm_C} {i : Nat} {bs : List UInt8}, cc.data.toList.drop i = bs → fd_C lks own nm ret cc i C bs = true → ∀ x ∈ pm_ents i C, decode cc x.1 = .ok (x.2.1, pm_len x.2.1 x.2.2) ∧ fd_x lks own nm ret x = true
  | [], _, _, _, _, _, hx => absurd hx List.not_mem_nil
  | c :: C, i, bs, hb, h, x, hx => by
    have h' : (fd_k lks own nm ret cc i c bs && fd_C lks own nm ret cc (i + 16) C (bs.drop 16)) = true := h
    rw [Bool.and_eq_true] at h'
    have hx' : x ∈ pm_ents1 i c ++ pm_ents (i + 16) C := hx
    rcases List.mem_append.mp hx' with hx' | hx'
    · exact fd_k_ok hb h'.1 x hx'
    · exact fd_C_ok (by rw [← hb, List.drop_drop]) h'.2 x hx'
theorem fd_ok {T : List pm_M} {lks : List (List pm_L)} (hlk : ∀ l ∈ lks, ∀ q ∈ l, pm_lkP T q) {own nm : String} {ret : Option FieldType} {cc : ByteArray} {C : pm_C} (h : fd_C lks own nm ret cc 0 C cc.data.toList = true) : pm_okC T own nm ret cc C := by
  intro pc ins x hf
  have h1 := fd_C_ok (i := 0) rfl h _ (pm_fetch_mem hf)
  refine ⟨h1.1, ?_⟩
  have h2 := h1.2
  unfold fd_x at h2
  split at h2
  · next hl => exact pm_lkc_ok hlk hl h2
  · next hl => exact pm_triv_ok hl h2
end
