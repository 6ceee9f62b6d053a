/-! EACH INSTRUCTION of the pure machine is the machine's -/
def pm_W (p : Program) (l : Launch) (e : Env) (R : Room) (s : State) (m : MethodId) (args : Array Value) (below : List Frame) (meth : Method) (c : Code) (Q : State → Prop) (b : Nat) (ad : Nat → Nat) (ca : Nat → ClassId) (fc : pm_K) (D : va_G) (nL n0 s0 : Nat) (g : pm_F) : Prop :=
  ∀ (H : Heap) (locs : List Loc) (ls : Array Slot) (cells slots : Nat), lv_has ls nL (pm_lv b ad 0 g.2.1) → va_P D vwCl (pm_ws b ad ca fc g.2.2.2) H → H.size = b + g.2.2.2.1.length → (∀ q : Nat, q < b → H[q]? = s.heap[q]?) → (∀ q ∈ locs, b ≤ q.base) → pm_all fc g →
    cells + n0 = g.2.2.2.1.length → slots + s0 = pm_sl g.2.2.2.1 → W p l e R s m args below meth c H locs cells slots Q (F0 m g.1 ls (g.2.2.1.map (pm_val b ad)))
section PMW
variable {p : Program} {l : Launch} {e : Env} {R : Room} {s : State} {m : MethodId} {args : Array Value} {below : List Frame} {meth : Method} {c : Code} {Q : State → Prop}
variable {b : Nat} {ad : Nat → Nat} {ca : Nat → ClassId} {fc : pm_K} {D : va_G} {cc : ByteArray} {nL n0 s0 : Nat} {pc pc' : Nat} {ls st st' : List pm_V} {σ : pm_S} {g : pm_F ⊕ pm_R} {G : pm_F ⊕ pm_R → Prop}
theorem pm_stk (hrow : ∀ (H : Heap) (locs : List Loc) (rls : Array Slot) (cells slots : Nat), (∀ v ∈ st, pm_ok v) → W p l e R s m args below meth c H locs cells slots Q (F0 m pc' rls (st'.map (pm_val b ad))) → W p l e R s m args below meth c H locs cells slots Q (F0 m pc rls (st.map (pm_val b ad)))) (hok : (∀ v ∈ st, pm_ok v) → ∀ v ∈ st', pm_ok v)
    (k : pm_W p l e R s m args below meth c Q b ad ca fc D nL n0 s0 (pc', ls, st', σ)) : pm_W p l e R s m args below meth c Q b ad ca fc D nL n0 s0 (pc, ls, st, σ) := by
  intro H locs rls cells slots h1 h2 h3 h4 h5 h6 h7 h8
  exact hrow _ _ _ _ _ h6.2.1 (k H locs rls cells slots h1 h2 h3 h4 h5 ⟨h6.1, hok h6.2.1, h6.2.2⟩ h7 h8)
theorem pm_nx_inv {g : pm_F ⊕ pm_R} (h : pm_nx pc ls st σ = some g) : g = .inl (pc, ls, st, σ) := (Option.some.inj h).symm
theorem pm_i2_inv {f : Int → Int → Int} {g : pm_F ⊕ pm_R} (h : pm_i2 f pc ls st σ = some g) : ∃ x y r, st = (0, y) :: (0, x) :: r ∧ g = .inl (pc + 1, ls, (0, f x y) :: r, σ) := by
  unfold pm_i2 at h
  split at h
  · exact ⟨_, _, _, rfl, pm_nx_inv h⟩
  · cases h
theorem pm_d2_inv {f : Int → Int → Int} {g : pm_F ⊕ pm_R} (h : pm_d2 f pc ls st σ = some g) : ∃ x y r, ¬ y = 0 ∧ st = (0, y) :: (0, x) :: r ∧ g = .inl (pc + 1, ls, (0, f x y) :: r, σ) := by
  unfold pm_d2 at h
  split at h
  · split at h
    · cases h
    · next hy => exact ⟨_, _, _, hy, rfl, pm_nx_inv h⟩
  · cases h
theorem pm_l2_inv {f : Int → Int → Int} {g : pm_F ⊕ pm_R} (h : pm_l2 f pc ls st σ = some g) : ∃ x y r, st = (1, y) :: (1, x) :: r ∧ g = .inl (pc + 1, ls, (1, f x y) :: r, σ) := by
  unfold pm_l2 at h
  split at h
  · exact ⟨_, _, _, rfl, pm_nx_inv h⟩
  · cases h
theorem pm_u_inv {t1 t2 : Nat} {f : Int → Int} {g : pm_F ⊕ pm_R} (h : pm_u t1 t2 f pc ls st σ = some g) : ∃ x r, st = (t1, x) :: r ∧ g = .inl (pc + 1, ls, (t2, f x) :: r, σ) := by
  unfold pm_u at h
  split at h
  · split at h
    · next e1 => subst e1; exact ⟨_, _, rfl, pm_nx_inv h⟩
    · cases h
  · cases h
theorem ok2 {P : pm_V → Prop} {x y : pm_V} {r : List pm_V} (h : ∀ v ∈ x :: y :: r, P v) : P x ∧ P y ∧ ∀ v ∈ r, P v := ⟨h _ (by simp), h _ (by simp), fun v hv => h v (by simp [hv])⟩
theorem ok1 {P : pm_V → Prop} {x : pm_V} {r : List pm_V} (h : ∀ v ∈ x :: r, P v) : P x ∧ ∀ v ∈ r, P v := ⟨h _ (by simp), fun v hv => h v (by simp [hv])⟩
theorem ok_c {P : pm_V → Prop} {x : pm_V} {r : List pm_V} (h : P x) (hr : ∀ v ∈ r, P v) : ∀ v ∈ x :: r, P v := fun v hv => by
  rcases List.mem_cons.mp hv with rfl | hv
  · exact h
  · exact hr v hv
/-- two ints to one -/
theorem pm_s_i2 {f : Int → Int → Int} {g : pm_F ⊕ pm_R} (h : pm_i2 f pc ls st σ = some g) (hf : ∀ x y, pm_ok (0, x) → pm_ok (0, y) → pm_ok (0, f x y))
    (row : ∀ (H : Heap) (locs : List Loc) (rls : Array Slot) (cells slots : Nat) (x y : Int) (rest : List Value), pm_ok (0, x) → pm_ok (0, y) → W p l e R s m args below meth c H locs cells slots Q (F0 m (pc + 1) rls (.int (Int32.ofInt (f x y)) :: rest)) → W p l e R s m args below meth c H locs cells slots Q (F0 m pc rls (.int (Int32.ofInt y) :: .int (Int32.ofInt x) :: rest)))
    (k : ∀ g', g = .inl g' → pm_W p l e R s m args below meth c Q b ad ca fc D nL n0 s0 g') : pm_W p l e R s m args below meth c Q b ad ca fc D nL n0 s0 (pc, ls, st, σ) := by
  obtain ⟨x, y, r, rfl, rfl⟩ := pm_i2_inv h
  exact pm_stk (fun H locs rls cells slots hok kk => row H locs rls cells slots x y _ (ok2 hok).2.1 (ok2 hok).1 kk) (fun hok => ok_c (hf x y (ok2 hok).2.1 (ok2 hok).1) (ok2 hok).2.2) (k _ rfl)
theorem pm_s_d2 {f : Int → Int → Int} {g : pm_F ⊕ pm_R} (h : pm_d2 f pc ls st σ = some g) (hf : ∀ x y, pm_ok (0, x) → pm_ok (0, y) → pm_ok (0, f x y))
    (row : ∀ (H : Heap) (locs : List Loc) (rls : Array Slot) (cells slots : Nat) (x y : Int) (rest : List Value), pm_ok (0, x) → pm_ok (0, y) → ¬ y = 0 → W p l e R s m args below meth c H locs cells slots Q (F0 m (pc + 1) rls (.int (Int32.ofInt (f x y)) :: rest)) → W p l e R s m args below meth c H locs cells slots Q (F0 m pc rls (.int (Int32.ofInt y) :: .int (Int32.ofInt x) :: rest)))
    (k : ∀ g', g = .inl g' → pm_W p l e R s m args below meth c Q b ad ca fc D nL n0 s0 g') : pm_W p l e R s m args below meth c Q b ad ca fc D nL n0 s0 (pc, ls, st, σ) := by
  obtain ⟨x, y, r, hy, rfl, rfl⟩ := pm_d2_inv h
  exact pm_stk (fun H locs rls cells slots hok kk => row H locs rls cells slots x y _ (ok2 hok).2.1 (ok2 hok).1 hy kk) (fun hok => ok_c (hf x y (ok2 hok).2.1 (ok2 hok).1) (ok2 hok).2.2) (k _ rfl)
theorem pm_s_l2 {f : Int → Int → Int} {g : pm_F ⊕ pm_R} (h : pm_l2 f pc ls st σ = some g) (hf : ∀ x y, pm_ok (1, x) → pm_ok (1, y) → pm_ok (1, f x y))
    (row : ∀ (H : Heap) (locs : List Loc) (rls : Array Slot) (cells slots : Nat) (x y : Int) (rest : List Value), pm_ok (1, x) → pm_ok (1, y) → W p l e R s m args below meth c H locs cells slots Q (F0 m (pc + 1) rls (.long (Int64.ofInt (f x y)) :: rest)) → W p l e R s m args below meth c H locs cells slots Q (F0 m pc rls (.long (Int64.ofInt y) :: .long (Int64.ofInt x) :: rest)))
    (k : ∀ g', g = .inl g' → pm_W p l e R s m args below meth c Q b ad ca fc D nL n0 s0 g') : pm_W p l e R s m args below meth c Q b ad ca fc D nL n0 s0 (pc, ls, st, σ) := by
  obtain ⟨x, y, r, rfl, rfl⟩ := pm_l2_inv h
  exact pm_stk (fun H locs rls cells slots hok kk => row H locs rls cells slots x y _ (ok2 hok).2.1 (ok2 hok).1 kk) (fun hok => ok_c (hf x y (ok2 hok).2.1 (ok2 hok).1) (ok2 hok).2.2) (k _ rfl)
theorem pm_s_u {t1 t2 : Nat} {f : Int → Int} {g : pm_F ⊕ pm_R} (h : pm_u t1 t2 f pc ls st σ = some g) (hf : ∀ x, pm_ok (t1, x) → pm_ok (t2, f x))
    (row : ∀ (H : Heap) (locs : List Loc) (rls : Array Slot) (cells slots : Nat) (x : Int) (rest : List Value), pm_ok (t1, x) → W p l e R s m args below meth c H locs cells slots Q (F0 m (pc + 1) rls (pm_val b ad (t2, f x) :: rest)) → W p l e R s m args below meth c H locs cells slots Q (F0 m pc rls (pm_val b ad (t1, x) :: rest)))
    (k : ∀ g', g = .inl g' → pm_W p l e R s m args below meth c Q b ad ca fc D nL n0 s0 g') : pm_W p l e R s m args below meth c Q b ad ca fc D nL n0 s0 (pc, ls, st, σ) := by
  obtain ⟨x, r, rfl, rfl⟩ := pm_u_inv h
  exact pm_stk (fun H locs rls cells slots hok kk => row H locs rls cells slots x _ (ok1 hok).1 kk) (fun hok => ok_c (hf x (ok1 hok).1) (ok1 hok).2) (k _ rfl)
theorem ok_w32 (z : Int) : pm_ok (0, w32 z) := w32_lo z
theorem ok_w64 (z : Int) : pm_ok (1, w64 z) := w64_lo z
theorem ok_i32 (x : Int32) : pm_ok (0, x.toInt) := i32_lt x
theorem ok_i64 (x : Int64) : pm_ok (1, x.toInt) := i64_lt x
/-- a push -/
theorem pm_s_push {v : pm_V} {g : pm_F ⊕ pm_R} (h : pm_nx pc' ls (v :: st) σ = some g) (hv : pm_ok v)
    (row : ∀ (H : Heap) (locs : List Loc) (rls : Array Slot) (cells slots : Nat) (rest : List Value), W p l e R s m args below meth c H locs cells slots Q (F0 m pc' rls (pm_val b ad v :: rest)) → W p l e R s m args below meth c H locs cells slots Q (F0 m pc rls rest))
    (k : ∀ g', g = .inl g' → pm_W p l e R s m args below meth c Q b ad ca fc D nL n0 s0 g') : pm_W p l e R s m args below meth c Q b ad ca fc D nL n0 s0 (pc, ls, st, σ) := by
  have ge := pm_nx_inv h
  exact pm_stk (fun H locs rls cells slots _ kk => row H locs rls cells slots _ kk) (fun hok => ok_c hv hok) (k _ ge)
theorem pm_get_mem {α : Type} {l : List α} {i : Nat} {v : α} (h : pm_get l i = some v) : v ∈ l := by
  rw [pm_get_eq] at h
  exact List.mem_of_getElem? h
/-- a load -/
theorem pm_s_load {i : Nat} {v : pm_V} {g : pm_F ⊕ pm_R} (hi : pm_get ls i = some v) (hv : v.1 ≤ 2) (ge : g = .inl (pc', ls, v :: st, σ))
    (row : ∀ (H : Heap) (locs : List Loc) (rls : Array Slot) (cells slots : Nat) (rest : List Value), rls[i]? = some (.val (pm_val b ad v)) → W p l e R s m args below meth c H locs cells slots Q (F0 m pc' rls (pm_val b ad v :: rest)) → W p l e R s m args below meth c H locs cells slots Q (F0 m pc rls rest))
    (k : ∀ g', g = .inl g' → pm_W p l e R s m args below meth c Q b ad ca fc D nL n0 s0 g') : pm_W p l e R s m args below meth c Q b ad ca fc D nL n0 s0 (pc, ls, st, σ) := by
  intro H locs rls cells slots h1 h2 h3 h4 h5 h6 h7 h8
  exact row H locs rls cells slots _ (pm_lv_at h1 hi hv) (k _ ge H locs rls cells slots h1 h2 h3 h4 h5 ⟨h6.1, ok_c (h6.1 v (pm_get_mem hi)) h6.2.1, h6.2.2⟩ h7 h8)
theorem pm_ldi_inv {i : Nat} {g : pm_F ⊕ pm_R} (h : pm_ldi pc i ls st σ = some g) : ∃ x, pm_get ls i = some (0, x) ∧ g = .inl (pc, ls, (0, x) :: st, σ) := by
  unfold pm_ldi at h
  split at h
  · next x hx => exact ⟨x, hx, pm_nx_inv h⟩
  · cases h
theorem pm_ldl_inv {i : Nat} {g : pm_F ⊕ pm_R} (h : pm_ldl pc i ls st σ = some g) : ∃ x, pm_get ls i = some (1, x) ∧ g = .inl (pc, ls, (1, x) :: st, σ) := by
  unfold pm_ldl at h
  split at h
  · next x hx => exact ⟨x, hx, pm_nx_inv h⟩
  · cases h
theorem pm_lda_inv {i : Nat} {g : pm_F ⊕ pm_R} (h : pm_lda pc i ls st σ = some g) : ∃ x, pm_get ls i = some (2, .ofNat x) ∧ g = .inl (pc, ls, (2, .ofNat x) :: st, σ) := by
  unfold pm_lda at h
  split at h
  · next x hx => exact ⟨x, hx, pm_nx_inv h⟩
  · cases h
/-- a store of one place -/
theorem pm_s_store {i : Nat} {v : pm_V} {ls' : List pm_V} {g : pm_F ⊕ pm_R} (hn : ls.length ≤ nL) (hp : pm_put ls i v = some ls') (hst : st = v :: st') (ge : g = .inl (pc', ls', st', σ))
    (row : ∀ (H : Heap) (locs : List Loc) (rls : Array Slot) (cells slots : Nat) (rest : List Value) (lv : List (Nat × Value)), lv_has rls nL lv → i < nL → (∀ rls' : Array Slot, lv_has rls' nL ((i, pm_val b ad v) :: lv.filter (fun q => !(q.1 == i) && !(q.1 + 1 == i && q.2.category == 2))) → W p l e R s m args below meth c H locs cells slots Q (F0 m pc' rls' rest)) → W p l e R s m args below meth c H locs cells slots Q (F0 m pc rls (pm_val b ad v :: rest)))
    (k : ∀ g', g = .inl g' → pm_W p l e R s m args below meth c Q b ad ca fc D nL n0 s0 g') : pm_W p l e R s m args below meth c Q b ad ca fc D nL n0 s0 (pc, ls, st, σ) := by
  subst hst
  intro H locs rls cells slots h1 h2 h3 h4 h5 h6 h7 h8
  obtain ⟨hi, hl, rfl⟩ := pm_put_inv hp
  refine row H locs rls cells slots _ _ h1 (Nat.lt_of_lt_of_le hi hn) (fun rls' hr => ?_)
  refine k _ ge H locs rls' cells slots (lv_more hr (pm_lv_put hl)) h2 h3 h4 h5 ⟨fun w hw => ?_, (ok1 h6.2.1).2, h6.2.2⟩ h7 h8
  rw [pm_set_eq] at hw
  rcases List.mem_or_eq_of_mem_set hw with h | h
  · exact h6.1 w h
  · rw [h]; exact (ok1 h6.2.1).1
theorem pm_sti_inv {i : Nat} {g : pm_F ⊕ pm_R} (h : pm_sti pc i ls st σ = some g) : ∃ x st' ls', pm_put ls i (0, x) = some ls' ∧ st = (0, x) :: st' ∧ g = .inl (pc, ls', st', σ) := by
  unfold pm_sti at h
  split at h
  · split at h
    · next hp => exact ⟨_, _, _, hp, rfl, pm_nx_inv h⟩
    · cases h
  · cases h
theorem pm_sta_inv {i : Nat} {g : pm_F ⊕ pm_R} (h : pm_sta pc i ls st σ = some g) : ∃ x st' ls', pm_put ls i (2, .ofNat x) = some ls' ∧ st = (2, .ofNat x) :: st' ∧ g = .inl (pc, ls', st', σ) := by
  unfold pm_sta at h
  split at h
  · split at h
    · next hp => exact ⟨_, _, _, hp, rfl, pm_nx_inv h⟩
    · cases h
  · cases h
theorem pm_stl_inv {i : Nat} {g : pm_F ⊕ pm_R} (h : pm_stl pc i ls st σ = some g) : ∃ x st', i + 1 < ls.length ∧ pm_lng ls i = false ∧ st = (1, x) :: st' ∧ g = .inl (pc, pm_set (pm_set ls i (1, x)) (i + 1) (9, 0), st', σ) := by
  unfold pm_stl at h
  split at h
  · split at h
    · next hp =>
      split at h
      · next w hw =>
        obtain ⟨h1, h2, rfl⟩ := pm_put_inv hp
        have h3 := pm_get_lt hw
        rw [pm_set_eq, List.length_set] at h3
        exact ⟨_, _, h3, h2, rfl, pm_nx_inv h⟩
      · cases h
    · cases h
  · cases h
theorem pm_s_stl {i : Nat} {g : pm_F ⊕ pm_R} (hn : ls.length ≤ nL) (h : pm_stl pc' i ls st σ = some g)
    (row : ∀ (H : Heap) (locs : List Loc) (rls : Array Slot) (cells slots : Nat) (rest : List Value) (lv : List (Nat × Value)) (x : Int64), lv_has rls nL lv → i + 1 < nL → (∀ rls' : Array Slot, lv_has rls' nL ((i, Value.long x) :: lv.filter (fun q => !(q.1 == i) && (!(q.1 == i + 1) && !(q.1 + 1 == i && q.2.category == 2)))) → W p l e R s m args below meth c H locs cells slots Q (F0 m pc' rls' rest)) → W p l e R s m args below meth c H locs cells slots Q (F0 m pc rls (.long x :: rest)))
    (k : ∀ g', g = .inl g' → pm_W p l e R s m args below meth c Q b ad ca fc D nL n0 s0 g') : pm_W p l e R s m args below meth c Q b ad ca fc D nL n0 s0 (pc, ls, st, σ) := by
  obtain ⟨x, st', hi, hl, rfl, ge⟩ := pm_stl_inv h
  intro H locs rls cells slots h1 h2 h3 h4 h5 h6 h7 h8
  refine row H locs rls cells slots _ _ _ h1 (Nat.lt_of_lt_of_le hi hn) (fun rls' hr => ?_)
  refine k _ ge H locs rls' cells slots (lv_more hr (pm_lv_put2 (v := (1, x)) hl)) h2 h3 h4 h5 ⟨fun w hw => ?_, (ok1 h6.2.1).2, h6.2.2⟩ h7 h8
  rw [pm_set_eq, pm_set_eq] at hw
  rcases List.mem_or_eq_of_mem_set hw with h | h
  · rcases List.mem_or_eq_of_mem_set h with h | h
    · exact h6.1 w h
    · rw [h]; exact (ok1 h6.2.1).1
  · rw [h]; exact trivial
theorem pm_inc_inv {i : Nat} {n : Int} {g : pm_F ⊕ pm_R} (h : pm_inc pc i n ls st σ = some g) : ∃ x ls', pm_get ls i = some (0, x) ∧ pm_put ls i (0, w32 (x + n)) = some ls' ∧ g = .inl (pc, ls', st, σ) := by
  unfold pm_inc at h
  split at h
  · next x hx =>
    split at h
    · next hp => exact ⟨_, _, hx, hp, pm_nx_inv h⟩
    · cases h
  · cases h
theorem pm_s_inc {i : Nat} {n : Int} {g : pm_F ⊕ pm_R} (hx : p.tables.exec = Jvm.exec) (hb : c.code = cc) (hn : ls.length ≤ nL) (hd : decode cc pc = .ok (.iinc i n, 3)) (h : pm_inc (pc + 3) i n ls st σ = some g)
    (k : ∀ g', g = .inl g' → pm_W p l e R s m args below meth c Q b ad ca fc D nL n0 s0 g') : pm_W p l e R s m args below meth c Q b ad ca fc D nL n0 s0 (pc, ls, st, σ) := by
  obtain ⟨x, ls', hi, hp, ge⟩ := pm_inc_inv h
  intro H locs rls cells slots h1 h2 h3 h4 h5 h6 h7 h8
  obtain ⟨hil, hl, rfl⟩ := pm_put_inv hp
  have hm := (pm_lv_mem b ad 0 ls (i, pm_val b ad (0, x))).mpr ⟨i, (0, x), hi, Nat.zero_le 2, by rw [Nat.zero_add]⟩
  obtain ⟨k0, hk0⟩ := List.getElem?_of_mem hm
  refine lv_iinc (k := k0) (v := Int32.ofInt (w32 (x + n))) hx hb hd h1 hk0 (i32_add x n) (Nat.lt_of_lt_of_le hil hn) rfl (fun rls' hr => ?_)
  refine k _ ge H locs rls' cells slots (lv_more hr (pm_lv_put (v := (0, w32 (x + n))) hl)) h2 h3 h4 h5 ⟨fun w hw => ?_, h6.2.1, h6.2.2⟩ h7 h8
  rw [pm_set_eq] at hw
  rcases List.mem_or_eq_of_mem_set hw with h | h
  · exact h6.1 w h
  · rw [h]; exact w32_lo _
/-- branches -/
theorem pm_s_if {cnd : Jvm.ClassFile.Cond} {off : Int} {x : Int} {r : List pm_V} (hx : p.tables.exec = Jvm.exec) (hb : c.code = cc) (hd : decode cc pc = .ok (.ifCond cnd off, 3)) (ht : 0 ≤ (pc : Int) + off)
    (k : pm_W p l e R s m args below meth c Q b ad ca fc D nL n0 s0 (pm_br cnd x 0 (pm_tg pc off) (pc + 3), ls, r, σ)) : pm_W p l e R s m args below meth c Q b ad ca fc D nL n0 s0 (pc, ls, (0, x) :: r, σ) := by
  have hto : (pc : Int) + off = ((pm_tg pc off : Nat) : Int) := by unfold pm_tg; omega
  intro H locs rls cells slots h1 h2 h3 h4 h5 h6 h7 h8
  have hx0 := (ok1 h6.2.1).1
  have kk := k H locs rls cells slots h1 h2 h3 h4 h5 ⟨h6.1, (ok1 h6.2.1).2, h6.2.2⟩ h7 h8
  have z0 : (-2147483648 : Int) ≤ 0 ∧ (0 : Int) < 2147483648 := by decide
  have q1 : Int32.ofInt x = 0 ↔ x = 0 := i32_eq hx0 z0
  have q2 : Int32.ofInt x < 0 ↔ x < 0 := i32_ltz hx0 z0
  have q3 : (0 : Int32) < Int32.ofInt x ↔ 0 < x := i32_ltz z0 hx0
  have q4 : Int32.ofInt x ≤ 0 ↔ x ≤ 0 := i32_lez hx0 z0
  have q5 : (0 : Int32) ≤ Int32.ofInt x ↔ 0 ≤ x := i32_lez z0 hx0
  cases cnd
  · refine lv_if_eq hx hb hd hto (fun q => ?_) (fun q => ?_)
    · simpa only [pm_br, if_pos (q1.mp q)] using kk
    · simpa only [pm_br, if_neg (fun z => q (q1.mpr z))] using kk
  · refine lv_if_ne hx hb hd hto (fun q => ?_) (fun q => ?_)
    · have q : ¬ x = 0 := fun z => absurd (q1.mpr z) (by first | exact q | simpa using q)
      simpa only [pm_br, if_neg q] using kk
    · have q : x = 0 := q1.mp (by first | exact q | simpa using q)
      simpa only [pm_br, if_pos q] using kk
  · refine lv_if_lt hx hb hd hto (fun q => ?_) (fun q => ?_)
    · simpa only [pm_br, if_pos (q2.mp q)] using kk
    · simpa only [pm_br, if_neg (fun z => q (q2.mpr z))] using kk
  · refine lv_if_ge hx hb hd hto (fun q => ?_) (fun q => ?_)
    · have q : ¬ x < 0 := by have := q5.mp (by first | exact q | simpa using q); omega
      simpa only [pm_br, if_neg q] using kk
    · have q : x < 0 := Int.not_le.mp (fun z => q (q5.mpr z))
      simpa only [pm_br, if_pos q] using kk
  · refine lv_if_gt hx hb hd hto (fun q => ?_) (fun q => ?_)
    · have q : 0 < x := q3.mp (by first | exact q | simpa using q)
      simpa only [pm_br, if_pos q] using kk
    · have q : ¬ 0 < x := fun z => q (by first | exact q3.mpr z | simpa using q3.mpr z)
      simpa only [pm_br, if_neg q] using kk
  · refine lv_if_le hx hb hd hto (fun q => ?_) (fun q => ?_)
    · have q : ¬ 0 < x := by have := q4.mp (by first | exact q | simpa using q); omega
      simpa only [pm_br, if_neg q] using kk
    · have q : 0 < x := Int.not_le.mp (fun z => q (q4.mpr z))
      simpa only [pm_br, if_pos q] using kk
theorem pm_s_icmp {cnd : Jvm.ClassFile.Cond} {off : Int} {x y : Int} {r : List pm_V} (hx : p.tables.exec = Jvm.exec) (hb : c.code = cc) (hd : decode cc pc = .ok (.if_icmp cnd off, 3)) (ht : 0 ≤ (pc : Int) + off)
    (k : pm_W p l e R s m args below meth c Q b ad ca fc D nL n0 s0 (pm_br cnd x y (pm_tg pc off) (pc + 3), ls, r, σ)) : pm_W p l e R s m args below meth c Q b ad ca fc D nL n0 s0 (pc, ls, (0, y) :: (0, x) :: r, σ) := by
  have hto : (pc : Int) + off = ((pm_tg pc off : Nat) : Int) := by unfold pm_tg; omega
  intro H locs rls cells slots h1 h2 h3 h4 h5 h6 h7 h8
  obtain ⟨hy0, hx0, hr⟩ := ok2 h6.2.1
  have kk := k H locs rls cells slots h1 h2 h3 h4 h5 ⟨h6.1, hr, h6.2.2⟩ h7 h8
  have q1 : Int32.ofInt x = Int32.ofInt y ↔ x = y := i32_eq hx0 hy0
  have q2 : Int32.ofInt x < Int32.ofInt y ↔ x < y := i32_ltz hx0 hy0
  have q3 : Int32.ofInt y < Int32.ofInt x ↔ y < x := i32_ltz hy0 hx0
  have q4 : Int32.ofInt x ≤ Int32.ofInt y ↔ x ≤ y := i32_lez hx0 hy0
  have q5 : Int32.ofInt y ≤ Int32.ofInt x ↔ y ≤ x := i32_lez hy0 hx0
  cases cnd
  · refine lv_icmp_eq hx hb hd hto (fun q => ?_) (fun q => ?_)
    · simpa only [pm_br, if_pos (q1.mp q)] using kk
    · simpa only [pm_br, if_neg (fun z => q (q1.mpr z))] using kk
  · refine lv_icmp_ne hx hb hd hto (fun q => ?_) (fun q => ?_)
    · have q : ¬ x = y := fun z => absurd (q1.mpr z) (by first | exact q | simpa using q)
      simpa only [pm_br, if_neg q] using kk
    · have q : x = y := q1.mp (by first | exact q | simpa using q)
      simpa only [pm_br, if_pos q] using kk
  · refine lv_icmp_lt hx hb hd hto (fun q => ?_) (fun q => ?_)
    · simpa only [pm_br, if_pos (q2.mp q)] using kk
    · simpa only [pm_br, if_neg (fun z => q (q2.mpr z))] using kk
  · refine lv_icmp_ge hx hb hd hto (fun q => ?_) (fun q => ?_)
    · have q : ¬ x < y := by have := q5.mp (by first | exact q | simpa using q); omega
      simpa only [pm_br, if_neg q] using kk
    · have q : x < y := Int.not_le.mp (fun z => q (q5.mpr z))
      simpa only [pm_br, if_pos q] using kk
  · refine lv_icmp_gt hx hb hd hto (fun q => ?_) (fun q => ?_)
    · have q : y < x := q3.mp (by first | exact q | simpa using q)
      simpa only [pm_br, if_pos q] using kk
    · have q : ¬ y < x := fun z => q (by first | exact q3.mpr z | simpa using q3.mpr z)
      simpa only [pm_br, if_neg q] using kk
  · refine lv_icmp_le hx hb hd hto (fun q => ?_) (fun q => ?_)
    · have q : ¬ y < x := by have := q4.mp (by first | exact q | simpa using q); omega
      simpa only [pm_br, if_neg q] using kk
    · have q : y < x := Int.not_le.mp (fun z => q (q4.mpr z))
      simpa only [pm_br, if_pos q] using kk
theorem pm_s_tsw {dflt lo hi : Int} {offs : Array Int} {len : Nat} {x o : Int} {r : List pm_V} (hx : p.tables.exec = Jvm.exec) (hb : c.code = cc) (hd : decode cc pc = .ok (.tableswitch dflt lo hi offs, len)) (ho : pm_tsw dflt lo hi offs x = some o) (ht : 0 ≤ (pc : Int) + o)
    (k : pm_W p l e R s m args below meth c Q b ad ca fc D nL n0 s0 (pm_tg pc o, ls, r, σ)) : pm_W p l e R s m args below meth c Q b ad ca fc D nL n0 s0 (pc, ls, (0, x) :: r, σ) := by
  have hto : (pc : Int) + o = ((pm_tg pc o : Nat) : Int) := by unfold pm_tg; omega
  intro H locs rls cells slots h1 h2 h3 h4 h5 h6 h7 h8
  have hx0 := (ok1 h6.2.1).1
  have kk := k H locs rls cells slots h1 h2 h3 h4 h5 ⟨h6.1, (ok1 h6.2.1).2, h6.2.2⟩ h7 h8
  have ex := i32_in hx0
  unfold pm_tsw at ho
  split at ho
  · next hc =>
    cases ho
    exact lv_tableOut hx hb hd (by rw [ex]; exact hc) hto kk
  · next hc =>
    refine lv_tableIn hx hb hd (by rw [ex]; omega) (by rw [ex]; omega) ?_ hto kk
    rw [ex, ← Array.getElem?_toList, ← pm_get_eq]
    exact ho
theorem pm_s_lsw {dflt : Int} {ps : Array (Int × Int)} {len : Nat} {x : Int} {r : List pm_V} (hx : p.tables.exec = Jvm.exec) (hb : c.code = cc) (hd : decode cc pc = .ok (.lookupswitch dflt ps, len)) (hp : (ps.toList.zip (ps.toList.drop 1)).all (fun (a, next) => a.1 < next.1) = true) (ht : 0 ≤ (pc : Int) + Op.lookupswitch.offset ps.toList dflt x)
    (k : pm_W p l e R s m args below meth c Q b ad ca fc D nL n0 s0 (pm_tg pc (Op.lookupswitch.offset ps.toList dflt x), ls, r, σ)) : pm_W p l e R s m args below meth c Q b ad ca fc D nL n0 s0 (pc, ls, (0, x) :: r, σ) := by
  have hto : (pc : Int) + Op.lookupswitch.offset ps.toList dflt x = ((pm_tg pc (Op.lookupswitch.offset ps.toList dflt x) : Nat) : Int) := by unfold pm_tg; omega
  intro H locs rls cells slots h1 h2 h3 h4 h5 h6 h7 h8
  have kk := k H locs rls cells slots h1 h2 h3 h4 h5 ⟨h6.1, (ok1 h6.2.1).2, h6.2.2⟩ h7 h8
  exact lv_lookup hx hb hd hp (by rw [i32_in (ok1 h6.2.1).1]) hto kk
end PMW
