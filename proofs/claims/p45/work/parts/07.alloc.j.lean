/-! JOINED: 07.alloc, 08.grow, 09.sound, 10.whole -/
section
/-! NEW CELLS, COPIES, STATICS, TEXTS -/
def pm_arrs : List (Nat × List Int) := [(0, [-1, 0, 0, 2, 1, 3, 0, 4]), (0, [1, 10, 11, 2, 20, 0, 0, 0, 0, 30, 0, 0, 0, 41, 40, 0, 0, 0, 50, 0, 0, 0, 0, 60, 70, 0, 0, 0, 0, 80, 0, 81]), (0, [4, 50, -1, 1, 1, 1, 1, 2, 12, 3, 1, 3, 0, 0, 0]), (0, [9, 99, 5, 1, 9, 1, 9, 99, 30, 30, 9, 99]), (0, [1, 0, -1, 0, 1, 0, 1, 0, 2, 1, 0, 0])]
def pm_txts : List (List Int) := [[116, 119, 111, 115, 121, 100], [40, 33, 45], [41], [124], [38], [60, 61, 62], [43, 45], [42, 47, 37], [63], [59]]
def pm_lof (l : List Int) (k : Nat) : Int := match pm_get l k with
  | some z => z
  | none => 0
/-- the arrays that are not ours: 0 .. 4 the statics, 5 the script, 10 .. 19 the texts' bytes -/
def pm_X0 (L : Nat) (xs : Nat → Int) : pm_X := fun j => if j = 5 then some (0, L, xs) else if j < 5 then (pm_get pm_arrs j).map (fun q => (q.1, q.2.length, pm_lof q.2)) else if j < 10 then none else (pm_get pm_txts (j - 10)).map (fun q => (3, q.length, pm_lof q))
def pm_stats : List (String × String × String × pm_V) := [("OneWall$Bodies", "ABOVE", "[I", (2, 1000)), ("OneWall$Bodies", "OWN", "[I", (2, 1001)), ("OneWall$Wall", "AT_FIRST", "[I", (2, 1002)), ("OneWall$Wall", "GREATEST", "[I", (2, 1003)), ("OneWall$Wall", "LEAST", "[I", (2, 1004)), ("java/lang/String", "COMPACT_STRINGS", "Z", (0, 1))]
def pm_strs : List (String × Nat × String × Nat) := [("OneWall$Law", 19, "twosyd", 0), ("OneWall$Law", 106, "(!-", 1), ("OneWall$Law", 108, ")", 2), ("OneWall$Law", 74, "|", 3), ("OneWall$Law", 76, "&", 4), ("OneWall$Law", 78, "<=>", 5), ("OneWall$Law", 80, "+-", 6), ("OneWall$Law", 82, "*/%", 7), ("OneWall$Law", 68, "?", 8), ("OneWall$Law", 49, ";", 9)]
def pm_nst : List (String × Nat × MethodName × String) := [("OneWall", 18, ⟨"OneWall$Changes", "<init>", "()V"⟩, "OneWall"), ("OneWall", 25, ⟨"OneWall$Law", "<init>", "()V"⟩, "OneWall"), ("OneWall", 32, ⟨"OneWall$Ways", "<init>", "()V"⟩, "OneWall"), ("OneWall", 39, ⟨"OneWall$Frost", "<init>", "()V"⟩, "OneWall"), ("OneWall", 46, ⟨"OneWall$Debts", "<init>", "()V"⟩, "OneWall"), ("OneWall", 56, ⟨"OneWall$Deeds", "<init>", "()V"⟩, "OneWall"), ("OneWall", 66, ⟨"OneWall$Bodies", "<init>", "()V"⟩, "OneWall")]
/-- what lies outside and stays: arrays, statics, texts, and the words that a call doesn't carry on by itself -/
def pm_EX (b : Nat) (ad : Nat → Nat) (X : pm_X) (U : State) (H : Heap) : Prop := pm_XT b ad X U H ∧
  (∀ q ∈ pm_stats, va_Z q.1 q.2.1 q.2.2.1 (pm_val b ad q.2.2.2) (fun q => b ≤ q) U H) ∧
  (∀ i, i < 10 → va_O "java/lang/String" (ad (2000 + i)) (fun q => b ≤ q) U H ∧ va_OF "java/lang/String" "coder" "B" (.int 0) (ad (2000 + i)) (fun q => b ≤ q) U H ∧ va_OF "java/lang/String" "value" "[B" (.ref (ad (1010 + i))) (ad (2000 + i)) (fun q => b ≤ q) U H) ∧
  (∀ q ∈ pm_strs, vk_R q.1 q.2.1 q.2.2.1 (ad (2000 + q.2.2.2)) U) ∧ (∀ q ∈ pm_nst, va_Nw (.methodLinkNest q.1 q.2.1 q.2.2.1 q.2.2.2) U) ∧
  (∀ A, (Cond.arrayOver (.array .int)).before A U = true) ∧ ∀ A, (Cond.arrayOver (.array .long)).before A U = true
theorem pm_AO {u U : State} {t : FieldType} (hvm : u.vm.Alike U.vm) (h : ∀ A, (Cond.arrayOver (.array t)).before A u = true) : ∀ A, (Cond.arrayOver (.array t)).before A U = true := fun A => arrayOver_alikeB hvm (h A)
theorem pm_EX.go {b : Nat} {ad : Nat → Nat} {X : pm_X} {s U : State} {H : Heap} (h : pm_EX b ad X s s.heap) (hW : s.WarmedH U.vm) (hb : b ≤ s.heap.size) (hq : ∀ q : Nat, q < b → H[q]? = s.heap[q]?) : pm_EX b ad X U H := by
  obtain ⟨h1, h2, h3, h4, h5, h6, h7⟩ := h
  have hq' : ∀ a : Nat, a < s.heap.size → ¬ b ≤ a → H[a]? = s.heap[a]? := fun a _ h => hq a (by omega)
  have hv := hW.alike
  exact ⟨fun j t n f hj => ⟨(h1 j t n f hj).1, (h1 j t n f hj).2.1, ((h1 j t n f hj).2.2.1.kept hq').moved hv, (h1 j t n f hj).2.2.2⟩, fun q hm => ((h2 q hm).kept hq').moved hv, fun i hi => ⟨((h3 i hi).1.kept hq').moved hv, ((h3 i hi).2.1.kept hq').moved hv, ((h3 i hi).2.2.kept hq').moved hv⟩,
    fun q hm => vk_R.warm hW (h4 q hm), fun q hm => va_Nw.warmM hW (h5 q hm), pm_AO hv h6, pm_AO hv h7⟩
theorem pm_EX.same {b : Nat} {ad : Nat → Nat} {X : pm_X} {u U : State} {H : Heap} (h : pm_EX b ad X u H) (hv : U.vm = u.vm) : pm_EX b ad X U H := by
  obtain ⟨h1, h2, h3, h4, h5, h6, h7⟩ := h
  have ha : u.vm.Alike U.vm := by rw [hv]; exact Vm.Alike.refl _
  exact ⟨fun j t n f hj => ⟨(h1 j t n f hj).1, (h1 j t n f hj).2.1, (h1 j t n f hj).2.2.1.moved ha, (h1 j t n f hj).2.2.2⟩, fun q hm => (h2 q hm).moved ha, fun i hi => ⟨(h3 i hi).1.moved ha, (h3 i hi).2.1.moved ha, (h3 i hi).2.2.moved ha⟩,
    fun q hm => vk_R.same hv (h4 q hm), fun q hm => va_Nw.same rfl hv.symm (h5 q hm), pm_AO ha h6, pm_AO ha h7⟩
theorem pm_sl_app (L L' : List (Nat × Nat × Nat)) : pm_sl (L ++ L') = pm_sl L + pm_sl L' := by simp [pm_sl]
theorem pm_sl_rep (n : Nat) (sh : Nat × Nat × Nat) : pm_sl (List.replicate n sh) = n * sh.2.2 := by simp [pm_sl, pm_sl1]
section PMN
variable {p : Program} {l : Launch} {e : Env} {R : Room} {s : State} {m : MethodId} {args : Array Value} {below : List Frame} {meth : Method} {c : Code} {Q : State → Prop}
variable {b : Nat} {ad : Nat → Nat} {ca : Nat → ClassId} {fc : pm_K} {D : va_G} {cc : ByteArray} {nL n0 s0 : Nat} {pc pc' : Nat} {ls st st' : List pm_V} {σ : pm_S} {H H1 : Heap} {locs : List Loc} {cells slots : Nat} {X : pm_X}
/-- new cells behind the old ones -/
theorem pm_P_new {L L' : List (Nat × Nat × Nat)} {μ μ' : Nat → Nat → Int} (hP : va_P D vwCl (pm_ws b ad ca fc (L, μ)) H) (hk : ∀ q : Nat, q < H.size → H1[q]? = H[q]?) (hμ : ∀ i, i < L.length → ∀ k, μ' i k = μ i k)
    (hc : ∀ k sh, pm_get L' k = some sh → va_at D vwCl (b + (L.length + k), pm_cell b ad ca fc μ' (L.length + k) sh) H1) : va_P D vwCl (pm_ws b ad ca fc (L ++ L', μ')) H1 := by
  intro k q hq
  rw [pm_ws_get] at hq
  show va_at _ _ _ _
  have hq1 : (pm_get (L ++ L') k).map (fun sh => (b + k, pm_cell b ad ca fc μ' k sh)) = some q := hq
  rw [pm_get_app] at hq1
  by_cases hl : k < L.length
  · rw [if_pos hl] at hq1
    cases hg : pm_get L k with
    | none => rw [hg] at hq1; cases hq1
    | some sh =>
      rw [hg] at hq1
      cases hq1
      have h1 := hP k _ (pm_ws_at (σ := (L, μ)) hg)
      show va_at D vwCl (b + k, pm_cell b ad ca fc μ' k sh) H1
      rw [pm_cell_congr (μ := μ') (μ' := μ) (hμ k hl)]
      exact h1.kept (hk _ h1.lt)
  · rw [if_neg hl] at hq1
    cases hg : pm_get L' (k - L.length) with
    | none => rw [hg] at hq1; cases hq1
    | some sh =>
      rw [hg] at hq1
      cases hq1
      have h1 := hc _ _ hg
      rw [show L.length + (k - L.length) = k by omega] at h1
      exact h1
theorem pm_mok_new {L L' : List (Nat × Nat × Nat)} {μ μ' : Nat → Nat → Int} (h : pm_mok fc (L, μ)) (hl : (L ++ L').length ≤ 1000) (hμ : ∀ i, i < L.length → ∀ k, μ' i k = μ i k)
    (hsh : ∀ k sh, pm_get L' k = some sh → (sh.1 ≠ 0 → sh.2.1 ≤ 5 ∧ sh.2.2 < 2147483648) ∧ ∀ j, j < sh.2.2 → pm_good fc sh j (μ' (L.length + k) j)) : pm_mok fc (L ++ L', μ') := by
  refine ⟨⟨hl, fun i sh hi h0 => ?_⟩, fun i sh hi k hk => ?_⟩
  · have hi1 : pm_get (L ++ L') i = some sh := hi
    rw [pm_get_app] at hi1
    by_cases hil : i < L.length
    · rw [if_pos hil] at hi1
      exact h.1.2 i sh hi1 h0
    · rw [if_neg hil] at hi1
      exact (hsh _ _ hi1).1 h0
  · have hi1 : pm_get (L ++ L') i = some sh := hi
    rw [pm_get_app] at hi1
    by_cases hil : i < L.length
    · rw [if_pos hil] at hi1
      have h2 := h.2 i sh hi1 k hk
      show pm_good fc sh k (μ' i k)
      rw [hμ i hil k]
      exact h2
    · rw [if_neg hil] at hi1
      have h2 := (hsh _ _ hi1).2 k hk
      rw [show L.length + (i - L.length) = i by omega] at h2
      exact h2
theorem pm_new_ne {μ : Nat → Nat → Int} {c0 : Nat} {d : Nat → Int} : ∀ i, i < c0 → ∀ k, pm_new μ c0 d i k = μ i k := fun i hi k => if_neg (by omega)
theorem pm_get_one {α : Type} {x y : α} {k : Nat} (h : pm_get [x] k = some y) : k = 0 ∧ x = y := by
  match k, h with
  | 0, h => exact ⟨rfl, Option.some.inj h⟩
theorem pm_newa_inv {t : Nat} {g : pm_F ⊕ pm_R} (h : pm_newa t pc ls st σ = some g) : ∃ n r, st = (0, n) :: r ∧ 0 ≤ n ∧ n ≤ 60000 ∧ σ.1.length < 900 ∧ g = .inl (pc + 2, ls, (2, .ofNat σ.1.length) :: r, (σ.1 ++ [(1, t, n.toNat)], pm_new σ.2 σ.1.length (fun _ => 0))) := by
  unfold pm_newa at h
  split at h
  · split at h
    · next hc => exact ⟨_, _, rfl, hc.1, hc.2.1, hc.2.2, pm_nx_inv h⟩
    · cases h
  · cases h
def pm_aty : Nat → ArrayType
  | 0 => .int
  | 1 => .long
  | _ => .boolean
theorem pm_s_newa {t : Nat} {g : pm_F ⊕ pm_R} (ht : t ≤ 2) (hx : p.tables.exec = Jvm.exec) (hb : c.code = cc) (hts : ∀ w ∈ pm_U, w.before args s = true) (hK : va_K D vwCl (pm_tys ca) s) (hin : Cond.arrayClass (newarray.typeOf (pm_aty t)) ∈ pm_U) (hd : decode cc pc = .ok (.newarray (pm_aty t), 2)) (h : pm_newa t pc ls st σ = some g)
    (hroom : ∀ g' : pm_F, g = .inl g' → g'.2.2.2.1.length ≤ R.cells + n0 ∧ pm_sl g'.2.2.2.1 ≤ R.slots + s0) (kk : ∀ g', g = .inl g' → pm_W p l e R s m args below meth c Q b ad ca fc D nL n0 s0 g') : pm_W p l e R s m args below meth c Q b ad ca fc D nL n0 s0 (pc, ls, st, σ) := by
  obtain ⟨n, rest, rfl, hn0, hn1, hlen, ge⟩ := pm_newa_inv h
  obtain ⟨r1, r2⟩ := hroom _ ge
  have r1 : (σ.1 ++ [(1, t, n.toNat)]).length ≤ R.cells + n0 := r1
  have r2 : pm_sl (σ.1 ++ [(1, t, n.toNat)]) ≤ R.slots + s0 := r2
  rw [List.length_append] at r1
  rw [pm_sl_app] at r2
  have e9 : pm_sl [((1, t, n.toNat) : Nat × Nat × Nat)] = n.toNat := by simp [pm_sl, pm_sl1]
  have e8 : ([((1, t, n.toNat) : Nat × Nat × Nat)]).length = 1 := rfl
  intro H locs rls cells slots h1 h2 h3 h4 h5 h6 h7 h8
  have h7 : cells + n0 = σ.1.length := h7
  have h8 : slots + s0 = pm_sl σ.1 := h8
  have h3 : H.size = b + σ.1.length := h3
  have hnk := (ok1 h6.2.1).1
  have eN : (Int32.ofInt n).toNatClampNeg = n.toNat := i32_nat hn0 hnk.2
  have hcb : n.toNat * componentBytes (newarray.typeOf (pm_aty t)) ≤ 536870912 := by
    have h9 : componentBytes (newarray.typeOf (pm_aty t)) ≤ 8 := by
      match t, ht with
      | 0, _ => decide
      | 1, _ => decide
      | 2, _ => decide
    have h10 : n.toNat ≤ 60000 := by omega
    exact Nat.le_trans (Nat.mul_le_mul h10 h9) (by decide)
  show W p l e R s m args below meth c H locs cells slots Q (F0 m pc rls (.int (Int32.ofInt n) :: rest.map (pm_val b ad)))
  refine va_newaK hx hb (hts _ hin) rfl hd rfl (fun q => ?_) eN hcb (by omega) (by omega) h3 fun H1 cA q1 q2 q3 q4 q5 => ?_
  · rw [Int32.lt_iff_toInt_lt, i32_in hnk] at q
    simp at q
    omega
  have hcA : cA = ca t := by
    match t, ht with
    | 0, _ => exact Option.some.inj (q5.symm.trans (hK.2 0 _ rfl).2)
    | 1, _ => exact Option.some.inj (q5.symm.trans (hK.2 1 _ rfl).2)
    | 2, _ => exact Option.some.inj (q5.symm.trans (hK.2 2 _ rfl).2)
  subst hcA
  have hP1 : va_P D vwCl (pm_ws b ad ca fc (σ.1 ++ [(1, t, n.toNat)], pm_new σ.2 σ.1.length (fun _ => 0))) H1 := by
    refine pm_P_new (L := σ.1) (μ := σ.2) h2 (fun q hq => q3 q (by omega)) pm_new_ne (fun k sh hk => ?_)
    obtain ⟨rfl, rfl⟩ := pm_get_one hk
    have e7 : ∀ j, pm_new σ.2 σ.1.length (fun _ => 0) (σ.1.length + 0) j = 0 := fun j => if_pos rfl
    show va_at _ _ _ _
    have e6 : pm_cell b ad ca fc (pm_new σ.2 σ.1.length (fun _ => 0)) (σ.1.length + 0) (1, t, n.toNat) = pm_cell b ad ca fc (fun _ _ => 0) (σ.1.length + 0) (1, t, n.toNat) := pm_cell_congr e7 _
    rw [e6]
    match t, ht with
    | 0, _ => exact q1
    | 1, _ => exact q1
    | 2, _ => exact q1
  have hmok : pm_mok fc (σ.1 ++ [(1, t, n.toNat)], pm_new σ.2 σ.1.length (fun _ => 0)) := by
    refine pm_mok_new (L := σ.1) (μ := σ.2) h6.2.2 (by rw [List.length_append, e8]; omega) pm_new_ne (fun k sh hk => ?_)
    obtain ⟨rfl, rfl⟩ := pm_get_one hk
    refine ⟨fun _ => ⟨by show t ≤ 5; omega, by show n.toNat < 2147483648; omega⟩, fun j _ => ?_⟩
    rw [show pm_new σ.2 σ.1.length (fun _ => 0) (σ.1.length + 0) j = 0 from if_pos rfl]
    match t, ht with
    | 0, _ => exact ⟨by decide, by decide⟩
    | 1, _ => exact ⟨by decide, by decide⟩
    | 2, _ => exact Or.inl rfl
  have last := kk _ ge H1 locs rls (cells + 1) (slots + n.toNat) h1 hP1 (by rw [q2]; show b + σ.1.length + 1 = b + (σ.1 ++ [(1, t, n.toNat)]).length; rw [List.length_append, e8]; omega) (fun q hq => (q3 q (by omega)).trans (h4 q hq)) h5 ⟨h6.1, ok_c trivial (ok1 h6.2.1).2, hmok⟩
    (by show cells + 1 + n0 = (σ.1 ++ [(1, t, n.toNat)]).length; rw [List.length_append, e8]; omega) (by show slots + n.toNat + s0 = pm_sl (σ.1 ++ [(1, t, n.toNat)]); rw [pm_sl_app, e9]; omega)
  have ev : pm_val b ad (2, .ofNat σ.1.length) = .ref (b + σ.1.length) := pm_val_own (by omega)
  rw [List.map_cons, ev] at last
  exact last
theorem pm_newo_inv {a k : Nat} {d : Nat → Int} {g : pm_F ⊕ pm_R} (h : pm_newo a k d pc ls st σ = some g) : σ.1.length < 900 ∧ g = .inl (pc + 3, ls, (2, .ofNat σ.1.length) :: st, (σ.1 ++ [(0, a, k)], pm_new σ.2 σ.1.length d)) := by
  unfold pm_newo at h
  split at h
  · next hc => exact ⟨hc, pm_nx_inv h⟩
  · cases h
theorem pm_s_newo {own : String} {idx a : Nat} {r : vw_C} {g : pm_F ⊕ pm_R} (hx : p.tables.exec = Jvm.exec) (hb : c.code = cc) (hts : ∀ w ∈ pm_U, w.before args s = true) (hown : s.vm.findClass own = some m.cls) (hK : va_K D vwCl (pm_tys ca) s) (hC : pm_CL fc)
    (hr : vwCl[a]? = some r) (hw1 : Cond.classLink own idx r.1 ∈ pm_U) (hw2 : Cond.instantiable r.1 r.2.2 ∈ pm_U) (hw3 : Cond.initialized r.1 ∈ pm_U) (hd : decode cc pc = .ok (.new idx, 3)) (h : pm_newo a r.2.2 (fun k => if fc a k = 2 then -1 else 0) pc ls st σ = some g)
    (hroom : ∀ g' : pm_F, g = .inl g' → g'.2.2.2.1.length ≤ R.cells + n0 ∧ pm_sl g'.2.2.2.1 ≤ R.slots + s0) (kk : ∀ g', g = .inl g' → pm_W p l e R s m args below meth c Q b ad ca fc D nL n0 s0 g') : pm_W p l e R s m args below meth c Q b ad ca fc D nL n0 s0 (pc, ls, st, σ) := by
  obtain ⟨hlen, ge⟩ := pm_newo_inv h
  obtain ⟨c1, c2, ty, c3, c4⟩ := hC a r hr
  obtain ⟨r1, r2⟩ := hroom _ ge
  have r1 : (σ.1 ++ [(0, a, r.2.2)]).length ≤ R.cells + n0 := r1
  have r2 : pm_sl (σ.1 ++ [(0, a, r.2.2)]) ≤ R.slots + s0 := r2
  rw [List.length_append] at r1
  rw [pm_sl_app] at r2
  have e9 : pm_sl [((0, a, r.2.2) : Nat × Nat × Nat)] = r.2.2 := by simp [pm_sl, pm_sl1]
  have e8 : ([((0, a, r.2.2) : Nat × Nat × Nat)]).length = 1 := rfl
  intro H locs rls cells slots h1 h2 h3 h4 h5 h6 h7 h8
  have h7 : cells + n0 = σ.1.length := h7
  have h8 : slots + s0 = pm_sl σ.1 := h8
  have h3 : H.size = b + σ.1.length := h3
  have hKn := hK.1 a _ hr
  refine W.newcK hx hb hown (hts _ hw1) (hts _ hw2) (hts _ hw3) rfl hd (by omega) (by omega) hKn.2.1 h3 fun H1 kC hkC q1 q2 q3 => ?_
  have e7 : ∀ j, pm_new σ.2 σ.1.length (fun k => if fc a k = 2 then -1 else 0) (σ.1.length + 0) j = (if fc a j = 2 then -1 else 0) := fun j => if_pos rfl
  have hP1 : va_P D vwCl (pm_ws b ad ca fc (σ.1 ++ [(0, a, r.2.2)], pm_new σ.2 σ.1.length (fun k => if fc a k = 2 then -1 else 0))) H1 := by
    refine pm_P_new (L := σ.1) (μ := σ.2) h2 (fun q hq => q3 q (by omega)) pm_new_ne (fun k sh hk => ?_)
    obtain ⟨rfl, rfl⟩ := pm_get_one hk
    refine ⟨r, hr, (u_born ty hts c1 hKn hkC q1 c3).to (fun j hj => ?_)⟩
    have e5 : vp_V ((List.range r.2.2).map fun k => pm_val b ad (pm_tag (fc a k), pm_new σ.2 σ.1.length (fun k => if fc a k = 2 then -1 else 0) (σ.1.length + 0) k)) j = pm_val b ad (pm_tag (fc a j), if fc a j = 2 then -1 else 0) := by
      unfold vp_V
      rw [List.getD_eq_getElem?_getD, List.getElem?_map, List.getElem?_range hj]
      show pm_val b ad (pm_tag (fc a j), _) = _
      rw [e7]
    show defaultValue (ty j) = vp_V _ j
    rw [e5]
    obtain ⟨f1, f2⟩ := c4 j hj
    rw [f1] at f2 ⊢
    cases hty : ty j with
    | int => rfl
    | long => rfl
    | boolean => rfl
    | object n => rfl
    | array t => rfl
    | _ => rw [hty] at f2; exact absurd f2 (by decide)
  have hmok : pm_mok fc (σ.1 ++ [(0, a, r.2.2)], pm_new σ.2 σ.1.length (fun k => if fc a k = 2 then -1 else 0)) := by
    refine pm_mok_new (L := σ.1) (μ := σ.2) h6.2.2 (by rw [List.length_append, e8]; omega) pm_new_ne (fun k sh hk => ?_)
    obtain ⟨rfl, rfl⟩ := pm_get_one hk
    refine ⟨fun q => absurd rfl q, fun j hj => ?_⟩
    rw [e7]
    obtain ⟨f1, f2⟩ := c4 j hj
    show pm_ok (pm_tag (fc a j), _) ∧ _
    match hf : fc a j, f2 with
    | 0, _ => exact ⟨⟨by decide, by decide⟩, fun q => by cases q⟩
    | 1, _ => exact ⟨⟨by decide, by decide⟩, fun q => by cases q⟩
    | 2, _ => exact ⟨trivial, fun q => by cases q⟩
    | 3, _ => exact ⟨⟨by decide, by decide⟩, fun _ => Or.inl rfl⟩
  have last := kk _ ge H1 locs rls (cells + 1) (slots + r.2.2) h1 hP1 (by rw [q2]; show b + σ.1.length + 1 = b + (σ.1 ++ [(0, a, r.2.2)]).length; rw [List.length_append, e8]; omega) (fun q hq => (q3 q (by omega)).trans (h4 q hq)) h5 ⟨h6.1, ok_c trivial h6.2.1, hmok⟩
    (by show cells + 1 + n0 = (σ.1 ++ [(0, a, r.2.2)]).length; rw [List.length_append, e8]; omega) (by show slots + r.2.2 + s0 = pm_sl (σ.1 ++ [(0, a, r.2.2)]); rw [pm_sl_app, e9]; omega)
  have ev : pm_val b ad (2, .ofNat σ.1.length) = .ref (b + σ.1.length) := pm_val_own (by omega)
  rw [List.map_cons, ev] at last
  exact last
theorem pm_mna_inv {t : Nat} {g : pm_F ⊕ pm_R} (h : pm_mna t pc ls st σ = some g) : ∃ k n r, st = (0, k) :: (0, n) :: r ∧ 0 ≤ n ∧ n ≤ 100 ∧ 0 ≤ k ∧ k ≤ 60000 ∧ σ.1.length < 800 ∧ g = .inl (pc + 4, ls, (2, .ofNat σ.1.length) :: r, (σ.1 ++ (1, t, n.toNat) :: List.replicate n.toNat (1, t - 4, k.toNat), pm_mnew σ.2 σ.1.length n.toNat)) := by
  unfold pm_mna at h
  split at h
  · split at h
    · next hc => exact ⟨_, _, _, rfl, hc.1, hc.2.1, hc.2.2.1, hc.2.2.2.1, hc.2.2.2.2, pm_nx_inv h⟩
    · cases h
  · cases h
theorem pm_get_rep {α : Type} {x y : α} : ∀ {n k : Nat}, pm_get (List.replicate n x) k = some y → k < n ∧ x = y
  | 0, k, h => by cases k <;> cases h
  | n + 1, 0, h => ⟨Nat.succ_pos n, Option.some.inj h⟩
  | n + 1, k + 1, h => by
    obtain ⟨h1, h2⟩ := pm_get_rep (n := n) (k := k) h
    exact ⟨Nat.succ_lt_succ h1, h2⟩
theorem pm_s_mna {own : String} {idx t : Nat} {g : pm_F ⊕ pm_R} (ht : t = 4 ∨ t = 5) (hx : p.tables.exec = Jvm.exec) (hb : c.code = cc) (hts : ∀ w ∈ pm_U, w.before args s = true) (hown : s.vm.findClass own = some m.cls) (hK : va_K D vwCl (pm_tys ca) s) (hEX : pm_EX b ad X s s.heap)
    (hw1 : Cond.classLink own idx ("[" ++ (pm_ety t).toString) ∈ pm_U) (hw2 : Cond.arrayClass (pm_ety (t - 4)) ∈ pm_U) (hd : decode cc pc = .ok (.multianewarray idx 2, 4)) (h : pm_mna t pc ls st σ = some g)
    (hroom : ∀ g' : pm_F, g = .inl g' → g'.2.2.2.1.length ≤ R.cells + n0 ∧ pm_sl g'.2.2.2.1 ≤ R.slots + s0) (kk : ∀ g', g = .inl g' → pm_W p l e R s m args below meth c Q b ad ca fc D nL n0 s0 g') : pm_W p l e R s m args below meth c Q b ad ca fc D nL n0 s0 (pc, ls, st, σ) := by
  obtain ⟨k, n, rest, rfl, hn0, hn1, hk0, hk1, hlen, ge⟩ := pm_mna_inv h
  obtain ⟨r1, r2⟩ := hroom _ ge
  have e8 : ((1, t, n.toNat) :: List.replicate n.toNat ((1, t - 4, k.toNat) : Nat × Nat × Nat)).length = n.toNat + 1 := by simp
  have e9 : pm_sl ((1, t, n.toNat) :: List.replicate n.toNat ((1, t - 4, k.toNat) : Nat × Nat × Nat)) = n.toNat + n.toNat * k.toNat := by
    rw [show ((1, t, n.toNat) :: List.replicate n.toNat ((1, t - 4, k.toNat) : Nat × Nat × Nat)) = [(1, t, n.toNat)] ++ List.replicate n.toNat (1, t - 4, k.toNat) from rfl, pm_sl_app, pm_sl_rep]
    simp [pm_sl, pm_sl1]
  have r1 : (σ.1 ++ (1, t, n.toNat) :: List.replicate n.toNat (1, t - 4, k.toNat)).length ≤ R.cells + n0 := r1
  have r2 : pm_sl (σ.1 ++ (1, t, n.toNat) :: List.replicate n.toNat (1, t - 4, k.toNat)) ≤ R.slots + s0 := r2
  rw [List.length_append, e8] at r1
  rw [pm_sl_app, e9] at r2
  have hover : (Cond.arrayOver (pm_ety t)).before args s = true := by
    rcases ht with rfl | rfl
    · exact hEX.2.2.2.2.2.1 args
    · exact hEX.2.2.2.2.2.2 args
  have ety : pm_ety t = .array (pm_ety (t - 4)) := by
    rcases ht with rfl | rfl
    · rfl
    · rfl
  have edv : fits (pm_ety (t - 4)) (defaultValue (pm_ety (t - 4))) = true ∧ (defaultValue (pm_ety (t - 4))).isDefault = true ∧ componentBytes (pm_ety (t - 4)) ≤ 8 := by
    rcases ht with rfl | rfl
    · exact ⟨rfl, rfl, by decide⟩
    · exact ⟨rfl, rfl, by decide⟩
  intro H locs rls cells slots h1 h2 h3 h4 h5 h6 h7 h8
  have h7 : cells + n0 = σ.1.length := h7
  have h8 : slots + s0 = pm_sl σ.1 := h8
  have h3 : H.size = b + σ.1.length := h3
  obtain ⟨hkk, hnn, hrr⟩ := ok2 h6.2.1
  have eN : (Int32.ofInt n).toNatClampNeg = n.toNat := i32_nat hn0 hnn.2
  have eK : (Int32.ofInt k).toNatClampNeg = k.toNat := i32_nat hk0 hkk.2
  have neg : ∀ z : Int, 0 ≤ z → pm_ok (0, z) → ¬ Int32.ofInt z < 0 := fun z h0 hz q => by
    rw [Int32.lt_iff_toInt_lt, i32_in hz] at q
    simp at q
    omega
  intro T hT Xs
  rw [ety] at hover hw1
  obtain ⟨vm₁, cA, comp, -, fA, fC, hO, -, X', step⟩ := Xs.multianewarray2F hx hown (hts _ hw1) hover (hts _ hw2) (g := F0 m pc rls (.int (Int32.ofInt k) :: .int (Int32.ofInt n) :: rest.map (pm_val b ad))) rfl (by rw [hb]; exact hd) rfl (neg n hn0 hnn) (neg k hk0 hkk) (by rw [eN]; omega) (by rw [eK]; exact Nat.le_trans (Nat.mul_le_mul (show k.toNat ≤ 60000 by omega) edv.2.2) (by decide)) (by rw [eK]; omega) edv.1 edv.2.1 (by rw [eN]; omega) (by rw [eN, eK]; omega)
  rw [eN, eK] at X' step
  have hcA : cA = ca t := by
    rcases ht with rfl | rfl
    · exact Option.some.inj (fA.symm.trans (hK.2 4 _ rfl).2)
    · exact Option.some.inj (fA.symm.trans (hK.2 5 _ rfl).2)
  have hcc : comp = ca (t - 4) := by
    rcases ht with rfl | rfl
    · exact Option.some.inj (fC.symm.trans (hK.2 0 _ rfl).2)
    · exact Option.some.inj (fC.symm.trans (hK.2 1 _ rfl).2)
  subst hcA
  subst hcc
  generalize hF : Jvm.Free.Multi.fill (T.setVm vm₁) (ca t) (ca (t - 4)) n.toNat k.toNat (defaultValue (pm_ety (t - 4))) n.toNat = F at X' step
  have hTh : (T.setVm vm₁).heap = H := hT
  obtain ⟨f1, f2, -, -⟩ := Jvm.Free.Multi.fill_facts (T.setVm vm₁) (ca t) (ca (t - 4)) n.toNat k.toNat (defaultValue (pm_ety (t - 4))) n.toNat
  rw [hF, hTh] at f1 f2
  have hold : ∀ x : Nat, x < H.size → F.heap[x]? = H[x]? := fun x hx => by
    have := Jvm.Free.Multi.fill_old (T.setVm vm₁) (ca t) (ca (t - 4)) n.toNat k.toNat (defaultValue (pm_ety (t - 4))) (a := x) (by rw [hTh]; exact hx) n.toNat
    rw [hF, hTh] at this
    exact this
  have hrow : ∀ j : Nat, j < n.toNat → F.heap[H.size + 1 + j]? = some (Jvm.Free.Multi.innerC (ca (t - 4)) k.toNat (defaultValue (pm_ety (t - 4)))) := fun j hj => by
    have := Jvm.Free.Multi.fill_inner (T.setVm vm₁) (ca t) (ca (t - 4)) n.toNat k.toNat (defaultValue (pm_ety (t - 4))) n.toNat j hj
    rw [hF, hTh] at this
    exact this
  rw [vr_outer] at f2
  have hμ : ∀ i, i < σ.1.length → ∀ j, pm_mnew σ.2 σ.1.length n.toNat i j = σ.2 i j := fun i hi j => by
    unfold pm_mnew
    rw [if_neg (by omega), if_neg (by omega)]
  have hout : ∀ j, pm_mnew σ.2 σ.1.length n.toNat (σ.1.length + 0) j = ((σ.1.length + 1 + j : Nat) : Int) := fun j => if_pos rfl
  have hinn : ∀ i, i < n.toNat → ∀ j, pm_mnew σ.2 σ.1.length n.toNat (σ.1.length + (i + 1)) j = 0 := fun i hi j => by
    unfold pm_mnew
    rw [if_neg (by omega), if_pos (by omega)]
  have hP1 : va_P D vwCl (pm_ws b ad ca fc (σ.1 ++ (1, t, n.toNat) :: List.replicate n.toNat (1, t - 4, k.toNat), pm_mnew σ.2 σ.1.length n.toNat)) F.heap := by
    refine pm_P_new (L := σ.1) (μ := σ.2) h2 hold hμ (fun i sh hi => ?_)
    match i, hi with
    | 0, hi =>
      have hs : ((1, t, n.toNat) : Nat × Nat × Nat) = sh := Option.some.inj hi
      subst hs
      have e1 : F.heap[b + (σ.1.length + 0)]? = some (arrV (ca t) n.toNat (fun j => va_rf (pm_rf b ad (pm_mnew σ.2 σ.1.length n.toNat (σ.1.length + 0) j)))) := by
        rw [show b + (σ.1.length + 0) = H.size by omega, f2]
        congr 1
        unfold arrV
        congr 2
        funext j
        show va_rf (if j.val < n.toNat then some (H.size + 1 + j.val) else none) = va_rf (pm_rf b ad (pm_mnew σ.2 σ.1.length n.toNat (σ.1.length + 0) j.val))
        rw [hout, if_pos j.isLt]
        show va_rf _ = va_rf (some (pm_ad b ad (σ.1.length + 1 + j.val)))
        rw [pm_ad_lt (by have := j.isLt; omega)]
        congr 2
        omega
      rcases ht with rfl | rfl
      · exact e1
      · exact e1
    | i + 1, hi =>
      obtain ⟨hin, hs⟩ := pm_get_rep (k := i) hi
      subst hs
      have e1 := hrow i hin
      rw [show H.size + 1 + i = b + (σ.1.length + (i + 1)) by omega] at e1
      show va_at _ _ _ _
      rw [pm_cell_congr (μ := pm_mnew σ.2 σ.1.length n.toNat) (μ' := fun _ _ => 0) (hinn i hin)]
      unfold Jvm.Free.Multi.innerC at e1
      rw [arrV_new] at e1
      rcases ht with rfl | rfl
      · exact e1
      · exact e1
  have hmok : pm_mok fc (σ.1 ++ (1, t, n.toNat) :: List.replicate n.toNat (1, t - 4, k.toNat), pm_mnew σ.2 σ.1.length n.toNat) := by
    refine pm_mok_new (L := σ.1) (μ := σ.2) h6.2.2 (by rw [List.length_append, e8]; omega) hμ (fun i sh hi => ?_)
    match i, hi with
    | 0, hi =>
      have hs : ((1, t, n.toNat) : Nat × Nat × Nat) = sh := Option.some.inj hi
      subst hs
      refine ⟨fun _ => ⟨by show t ≤ 5; omega, by show n.toNat < 2147483648; omega⟩, fun j _ => ?_⟩
      rcases ht with rfl | rfl
      · exact trivial
      · exact trivial
    | i + 1, hi =>
      obtain ⟨hin, hs⟩ := pm_get_rep (k := i) hi
      subst hs
      refine ⟨fun _ => ⟨by show t - 4 ≤ 5; omega, by show k.toNat < 2147483648; omega⟩, fun j _ => ?_⟩
      rw [hinn i hin]
      rcases ht with rfl | rfl
      · exact ⟨by decide, by decide⟩
      · exact ⟨by decide, by decide⟩
  have last := kk _ ge F.heap locs rls (cells + 1 + n.toNat) (slots + n.toNat + n.toNat * k.toNat) h1 hP1 (by rw [f1]; show H.size + 1 + n.toNat = b + (σ.1 ++ (1, t, n.toNat) :: List.replicate n.toNat (1, t - 4, k.toNat)).length; rw [List.length_append, e8]; omega) (fun q hq => (hold q (by omega)).trans (h4 q hq)) h5 ⟨h6.1, ok_c trivial hrr, hmok⟩
    (by show cells + 1 + n.toNat + n0 = (σ.1 ++ (1, t, n.toNat) :: List.replicate n.toNat (1, t - 4, k.toNat)).length; rw [List.length_append, e8]; omega) (by show slots + n.toNat + n.toNat * k.toNat + s0 = pm_sl (σ.1 ++ (1, t, n.toNat) :: List.replicate n.toNat (1, t - 4, k.toNat)); rw [pm_sl_app, e9]; omega)
  have ev : pm_val b ad (2, .ofNat σ.1.length) = .ref (b + σ.1.length) := pm_val_own (by omega)
  rw [List.map_cons, ev] at last
  obtain ⟨t', a1, b1⟩ := last F rfl X'
  refine ⟨t', step t' ?_, b1⟩
  have e1 : T.heap.size = b + σ.1.length := by rw [hT]; exact h3
  rw [e1]
  exact a1
end PMN
end
section
/-! THE STORE ONLY GROWS -/
/-- a store of cells only grows -/
def pm_gr (σ σ' : pm_S) : Prop := σ.1.length ≤ σ'.1.length ∧ pm_sl σ.1 ≤ pm_sl σ'.1
theorem pm_gr.rf (σ : pm_S) : pm_gr σ σ := ⟨Nat.le_refl _, Nat.le_refl _⟩
theorem pm_gr.tr {σ σ' σ'' : pm_S} (h : pm_gr σ σ') (h' : pm_gr σ' σ'') : pm_gr σ σ'' := ⟨Nat.le_trans h.1 h'.1, Nat.le_trans h.2 h'.2⟩
theorem pm_gr.app (σ : pm_S) (L : List (Nat × Nat × Nat)) (μ : Nat → Nat → Int) : pm_gr σ (σ.1 ++ L, μ) := ⟨by simp, by show pm_sl σ.1 ≤ pm_sl (σ.1 ++ L); rw [pm_sl_app]; omega⟩
def pm_grO (orc : pm_O) : Prop := ∀ y as σ rv σ', orc y as σ = some (rv, σ') → pm_gr σ σ'
theorem pm_call_gr {orc : pm_O} (ho : pm_grO orc) {y : Nat} {as rest : List pm_V} {pc : Nat} {ls : List pm_V} {σ : pm_S} {g : pm_F ⊕ pm_R} (h : pm_call orc y as rest pc ls σ = some g) : ∃ g', g = .inl g' ∧ pm_gr σ g'.2.2.2 := by
  unfold pm_call at h
  split at h
  · split at h
    · next rv σ' he => exact ⟨_, pm_nx_inv h, ho _ _ _ _ _ he⟩
    · cases h
  · cases h
theorem pm_getS_inv {k pc : Nat} {ls st : List pm_V} {σ : pm_S} {g : pm_F ⊕ pm_R} (h : pm_getS k pc ls st σ = some g) : ∃ i r v, st = (2, .ofNat i) :: r ∧ 2000 ≤ i ∧ i < 2010 ∧ ((k = 0 ∧ v = (2, .ofNat (i - 2000 + 1010))) ∨ (k ≠ 0 ∧ v = (0, 0))) ∧ g = .inl (pc + 3, ls, v :: r, σ) := by
  unfold pm_getS at h
  split at h
  · split at h
    · next hc =>
      split at h
      · exact ⟨_, _, _, rfl, hc.1, hc.2, Or.inl ⟨rfl, rfl⟩, pm_nx_inv h⟩
      · next hk => exact ⟨_, _, _, rfl, hc.1, hc.2, Or.inr ⟨hk, rfl⟩, pm_nx_inv h⟩
    · cases h
  · cases h
theorem pm_copy_inv {pc : Nat} {ls st : List pm_V} {σ : pm_S} {g : pm_F ⊕ pm_R} (h : pm_copy pc ls st σ = some g) : ∃ n dp d sp sr r ns nd t, st = (0, n) :: (0, dp) :: (2, .ofNat d) :: (0, sp) :: (2, .ofNat sr) :: r ∧ pm_get σ.1 sr = some (1, t, ns) ∧ pm_get σ.1 d = some (1, t, nd) ∧ pm_fit 4 r = true ∧ (t = 0 ∨ t = 1) ∧ 0 ≤ sp ∧ 0 ≤ dp ∧ 0 ≤ n ∧ sp + n ≤ (ns : Int) ∧ dp + n ≤ (nd : Int) ∧ g = .inl (pc + 3, ls, r, (σ.1, pm_cpy σ.2 sr d sp.toNat dp.toNat n.toNat)) := by
  unfold pm_copy at h
  split at h
  · split at h
    · next h1 h2 h3 =>
      split at h
      · next hc =>
        obtain ⟨hc1, hc2⟩ := hc
        subst hc2
        split at h
        · next hd => exact ⟨_, _, _, _, _, _, _, _, _, rfl, h1, h2, h3, hc1, hd.1, hd.2.1, hd.2.2.1, hd.2.2.2.1, hd.2.2.2.2, pm_nx_inv h⟩
        · cases h
      · cases h
    · cases h
  · cases h
theorem pm_call_inv {orc : pm_O} {y : Nat} {as rest : List pm_V} {pc : Nat} {ls : List pm_V} {σ : pm_S} {g : pm_F ⊕ pm_R} (h : pm_call orc y as rest pc ls σ = some g) : ∃ rv σ', pm_fit 4 rest = true ∧ orc y as σ = some (rv, σ') ∧ g = .inl (pc + 3, ls, pm_psh rv rest, σ') := by
  unfold pm_call at h
  split at h
  · next hf =>
    split at h
    · next rv σ' he => exact ⟨rv, σ', hf, he, pm_nx_inv h⟩
    · cases h
  · cases h
theorem pm_callS_inv {orc : pm_O} {y n : Nat} {pc : Nat} {ls st : List pm_V} {σ : pm_S} {g : pm_F ⊕ pm_R} (h : pm_callS orc y n pc ls st σ = some g) : ∃ as rest, pm_pop n [] st = some (as, rest) ∧ pm_call orc y as rest pc ls σ = some g := by
  unfold pm_callS at h
  split at h
  · next hp => exact ⟨_, _, hp, h⟩
  · cases h
theorem pm_callV_inv {orc : pm_O} {y n z : Nat} {pc : Nat} {ls st : List pm_V} {σ : pm_S} {g : pm_F ⊕ pm_R} (h : pm_callV orc y n z pc ls st σ = some g) : ∃ as rest, pm_pop (n + 1) [] st = some (as, rest) ∧ pm_recv z as σ = true ∧ pm_call orc y as rest pc ls σ = some g := by
  unfold pm_callV at h
  split at h
  · next hp =>
    split at h
    · next hr => exact ⟨_, _, hp, hr, h⟩
    · cases h
  · cases h
theorem pm_callI_inv {orc : pm_O} {y n : Nat} {pc : Nat} {ls st : List pm_V} {σ : pm_S} {g : pm_F ⊕ pm_R} (h : pm_callI orc y n pc ls st σ = some g) : ∃ as rest, pm_pop (n + 1) [] st = some (as, rest) ∧ pm_ref0 as = true ∧ pm_call orc y as rest pc ls σ = some g := by
  unfold pm_callI at h
  split at h
  · next hp =>
    split at h
    · next hr => exact ⟨_, _, hp, hr, h⟩
    · cases h
  · cases h
theorem pm_obj_inv {pc : Nat} {ls st : List pm_V} {σ : pm_S} {g : pm_F ⊕ pm_R} (h : pm_obj pc ls st σ = some g) : ∃ a r, st = (2, .ofNat a) :: r ∧ pm_fit 4 r = true ∧ g = .inl (pc + 3, ls, r, σ) := by
  unfold pm_obj at h
  split at h
  · split at h
    · next hf => exact ⟨_, _, rfl, hf, pm_nx_inv h⟩
    · cases h
  · cases h
theorem pm_m2_inv {f : Int → Int → Int} {pc : Nat} {ls st : List pm_V} {σ : pm_S} {g : pm_F ⊕ pm_R} (h : pm_m2 f pc ls st σ = some g) : ∃ x y r, st = (0, y) :: (0, x) :: r ∧ pm_fit 4 r = true ∧ g = .inl (pc + 3, ls, (0, f x y) :: r, σ) := by
  unfold pm_m2 at h
  split at h
  · split at h
    · next hf => exact ⟨_, _, _, rfl, hf, pm_nx_inv h⟩
    · cases h
  · cases h
theorem pm_m1_inv {f : Int → Int} {pc : Nat} {ls st : List pm_V} {σ : pm_S} {g : pm_F ⊕ pm_R} (h : pm_m1 f pc ls st σ = some g) : ∃ x r, st = (0, x) :: r ∧ pm_fit 4 r = true ∧ g = .inl (pc + 3, ls, (0, f x) :: r, σ) := by
  unfold pm_m1 at h
  split at h
  · split at h
    · next hf => exact ⟨_, _, rfl, hf, pm_nx_inv h⟩
    · cases h
  · cases h
def pm_grG (σ : pm_S) : pm_F ⊕ pm_R → Prop
  | .inl g' => pm_gr σ g'.2.2.2
  | .inr r => r.2 = σ
theorem pm_exec_gr {orc : pm_O} (ho : pm_grO orc) {X : pm_X} {fc : pm_K} {ins : Instr} {x : pm_A} {pc : Nat} {ls st : List pm_V} {σ : pm_S} {g : pm_F ⊕ pm_R} (h : pm_exec orc X fc ins x pc ls st σ = some g) : pm_grG σ g := by
  have nx : ∀ {pc' : Nat} {ls' st' : List pm_V}, pm_nx pc' ls' st' σ = some g → pm_grG σ g := fun h => by rw [pm_nx_inv h]; exact pm_gr.rf σ
  have inl : ∀ {pc' : Nat} {ls' st' : List pm_V}, g = .inl (pc', ls', st', σ) → pm_grG σ g := fun h => by rw [h]; exact pm_gr.rf σ
  have inm : ∀ {pc' : Nat} {ls' st' : List pm_V} {μ : Nat → Nat → Int}, g = .inl (pc', ls', st', (σ.1, μ)) → pm_grG σ g := fun h => by rw [h]; exact ⟨Nat.le_refl _, Nat.le_refl _⟩
  have ina : ∀ {pc' : Nat} {ls' st' : List pm_V} {L : List (Nat × Nat × Nat)} {μ : Nat → Nat → Int}, g = .inl (pc', ls', st', (σ.1 ++ L, μ)) → pm_grG σ g := fun h => by rw [h]; exact pm_gr.app σ _ _
  have inc : (∃ g', g = .inl g' ∧ pm_gr σ g'.2.2.2) → pm_grG σ g := fun h => by obtain ⟨g', h1, h2⟩ := h; rw [h1]; exact h2
  have ret : ∀ {t a : Nat}, pm_ret t a st σ = some g → pm_grG σ g := fun h => by
    unfold pm_ret at h
    split at h
    · split at h
      · cases h; rfl
      · cases h
    · cases h
  unfold pm_exec at h
  split at h
  all_goals first
    | exact nx h
    | exact (let ⟨_, _, h2⟩ := pm_ldi_inv h; inl h2)
    | exact (let ⟨_, _, h2⟩ := pm_ldl_inv h; inl h2)
    | exact (let ⟨_, _, h2⟩ := pm_lda_inv h; inl h2)
    | exact (let ⟨_, _, _, _, _, h2⟩ := pm_sti_inv h; inl h2)
    | exact (let ⟨_, _, _, _, _, h2⟩ := pm_sta_inv h; inl h2)
    | exact (let ⟨_, _, _, _, _, h2⟩ := pm_stl_inv h; inl h2)
    | exact (let ⟨_, _, _, _, h2⟩ := pm_inc_inv h; inl h2)
    | exact (let ⟨_, _, _, _, h2⟩ := pm_i2_inv h; inl h2)
    | exact (let ⟨_, _, _, _, _, h2⟩ := pm_d2_inv h; inl h2)
    | exact (let ⟨_, _, _, _, h2⟩ := pm_l2_inv h; inl h2)
    | exact (let ⟨_, _, _, h2⟩ := pm_u_inv h; inl h2)
    | exact (let ⟨_, _, _, _, _, _, _, _, _, h2⟩ := pm_aload_inv h; inl h2)
    | exact (let ⟨_, _, _, _, _, _, _, _, _, h2⟩ := pm_baload_inv h; inl h2)
    | exact (let ⟨_, _, _, _, _, _, _, _, _, _, h2⟩ := pm_aald_inv h; inl h2)
    | exact (let ⟨_, _, _, _, _, _, _, _, _, _, h2⟩ := pm_astore_inv h; inm h2)
    | exact (let ⟨_, _, _, _, _, _, _, h2⟩ := pm_alen_inv h; inl h2)
    | exact (let ⟨_, _, _, _, _, _, _, _, h2⟩ := pm_putf_inv h; inm h2)
    | exact (let ⟨_, h2⟩ := pm_newo_inv h; ina h2)
    | exact ret h
    | skip
  all_goals first
    | (split at h <;> first
        | (split at h <;> first | exact nx h | cases h)
        | exact nx h
        | exact (let ⟨_, _, _, _, _, _, h2⟩ := pm_newa_inv h; ina h2)
        | (cases h; first | rfl | exact pm_gr.rf σ)
        | skip)
    | skip
  all_goals first
    | exact (let ⟨_, _, _, _, _, _, h2⟩ := pm_getf_inv h; inl h2)
    | exact (let ⟨_, _, _, _, _, _, _, h2⟩ := pm_getS_inv h; inl h2)
    | exact (let ⟨_, _, _, _, _, _, _, _, _, h2⟩ := pm_mna_inv h; ina h2)
    | exact (let ⟨_, _, _, _, _, _, _, _, _, _, _, _, _, _, _, _, _, _, _, h2⟩ := pm_copy_inv h; inm h2)
    | exact (let ⟨_, _, _, h2⟩ := pm_callS_inv h; inc (pm_call_gr ho h2))
    | exact (let ⟨_, _, _, _, h2⟩ := pm_callV_inv h; inc (pm_call_gr ho h2))
    | exact (let ⟨_, _, _, _, h2⟩ := pm_callI_inv h; inc (pm_call_gr ho h2))
    | exact (let ⟨_, _, _, _, h2⟩ := pm_obj_inv h; inl h2)
    | exact (let ⟨_, _, _, _, _, h2⟩ := pm_m2_inv h; inl h2)
    | exact (let ⟨_, _, _, _, h2⟩ := pm_m1_inv h; inl h2)
    | cases h
theorem pm_run_gr {orc : pm_O} (ho : pm_grO orc) {X : pm_X} {fc : pm_K} {C : pm_C} {rv : Option pm_V} {σ' : pm_S} : ∀ {n : Nat} {g : pm_F}, pm_run orc X fc C n g = some (rv, σ') → pm_gr g.2.2.2 σ'
  | 0, g, h => by cases h
  | n + 1, g, h => by
    rw [pm_run] at h
    cases hs : pm_step orc X fc C g with
    | none => rw [hs] at h; cases h
    | some q =>
      rw [hs] at h
      have h1 : pm_grG g.2.2.2 q := by
        unfold pm_step at hs
        split at hs
        · exact pm_exec_gr ho hs
        · cases hs
      cases q with
      | inl g' => exact pm_gr.tr h1 (pm_run_gr ho (n := n) h)
      | inr r =>
        cases h
        have h2 : σ' = g.2.2.2 := h1
        rw [h2]
        exact pm_gr.rf _
theorem pm_E_gr {T : List pm_M} {X : pm_X} {fc : pm_K} : ∀ d, pm_grO (pm_E T X fc d)
  | 0 => fun y as σ rv σ' h => by cases h
  | d + 1 => fun y as σ rv σ' h => by
    unfold pm_E at h
    split at h
    · split at h
      · obtain ⟨n, hn⟩ := pm_go_iff.mp h
        exact pm_run_gr (pm_E_gr d) hn
      · cases h
    · cases h
end
section
/-! THE REST OF THE INSTRUCTIONS, CALLS, AND THE WHOLE: what the pure machine answers, the machine does -/
def pm_gm (M : pm_M) (n : Nat) : Prop := plainName M.1.cls = true ∧ M.2.2.1 ≤ 40 ∧ (M.1.cls ≠ "java/lang/invoke/MethodHandle" ∧ M.1.cls ≠ "java/lang/invoke/VarHandle" ∧ (parseMethodDescriptor M.1.desc).map (fun d => d.parameters.length) = some n) ∧ Cond.code M.1 M.2.1 M.2.2.1 M.2.2.2.1 ∈ pm_U ∧ Cond.initialized M.1.cls ∈ pm_U
def pm_wd (T : List pm_M) (own nm : String) (ret : Option FieldType) (pc : Nat) (ins : Instr) (x : pm_A) : Prop := match ins with
  | .iconst n => -128 ≤ n ∧ n ≤ 127
  | .bipush n => -128 ≤ n ∧ n ≤ 127
  | .sipush n => -32768 ≤ n ∧ n ≤ 32767
  | .ldc idx => (x.1 = 0 ∧ pm_ok (0, x.2.2.1) ∧ Cond.constant own idx (Int32.ofInt x.2.2.1) ∈ pm_U) ∨ (x.1 = 2 ∧ ∃ q ∈ pm_strs, q.1 = own ∧ q.2.1 = idx ∧ x.2.2.1 = ((2000 + q.2.2.2 : Nat) : Int))
  | .ldc_w idx => pm_ok (0, x.2.2.1) ∧ Cond.constant own idx (Int32.ofInt x.2.2.1) ∈ pm_U
  | .ldc2_w idx => pm_ok (1, x.2.2.1) ∧ Cond.constantLong own idx (Int64.ofInt x.2.2.1) ∈ pm_U
  | .getstatic idx => ∃ q ∈ pm_stats, q.2.2.2 = (x.1, x.2.2.1) ∧ pm_ok (x.1, x.2.2.1) ∧ Cond.fieldLink own idx q.1 q.2.1 q.2.2.1 ∈ pm_U
  | .getfield idx => (x.1 = 100 ∧ ((x.2.1 = 0 ∧ Cond.fieldLink own idx "java/lang/String" "value" "[B" ∈ pm_U) ∨ (x.2.1 = 1 ∧ Cond.fieldLink own idx "java/lang/String" "coder" "B" ∈ pm_U))) ∨
      (x.1 ≠ 100 ∧ ∃ r : vw_C, vwCl[x.1]? = some r ∧ x.2.1 < r.2.2 ∧ Cond.fieldLink own idx (r.2.1 x.2.1).1 (r.2.1 x.2.1).2.1 (r.2.1 x.2.1).2.2.1 ∈ pm_U)
  | .putfield idx => ∃ r : vw_C, vwCl[x.1]? = some r ∧ x.2.1 < r.2.2 ∧ Cond.fieldLink own idx (r.2.1 x.2.1).1 (r.2.1 x.2.1).2.1 (r.2.1 x.2.1).2.2.1 ∈ pm_U ∧ ((r.2.1 x.2.1).2.2.2 = false ∨ ((r.2.1 x.2.1).2.2.2 = true ∧ nm = "<init>" ∧ (r.2.1 x.2.1).1 = own))
  | .new idx => ∃ r : vw_C, vwCl[x.1]? = some r ∧ x.2.1 = r.2.2 ∧ Cond.classLink own idx r.1 ∈ pm_U ∧ Cond.instantiable r.1 r.2.2 ∈ pm_U ∧ Cond.initialized r.1 ∈ pm_U
  | .newarray ty => Cond.arrayClass (newarray.typeOf ty) ∈ pm_U
  | .multianewarray idx _ => (x.1 = 4 ∨ x.1 = 5) ∧ Cond.classLink own idx ("[" ++ (pm_ety x.1).toString) ∈ pm_U ∧ Cond.arrayClass (pm_ety (x.1 - 4)) ∈ pm_U
  | .invokestatic idx => (x.2.2.1 = 1 ∧ Cond.methodLink own idx arraycopyName ∈ pm_U ∧ Cond.native arraycopyName ∈ pm_U ∧ Cond.static arraycopyName ∈ pm_U ∧ Cond.initialized "java/lang/System" ∈ pm_U) ∨
      (x.2.2.1 = 2 ∧ Cond.methodLink own idx Lib.Math.max.name ∈ pm_U ∧ Cond.static Lib.Math.max.name ∈ pm_U ∧ Cond.initialized "java/lang/Math" ∈ pm_U ∧ Cond.code Lib.Math.max.name Lib.Math.max.code 2 (some .int) ∈ pm_U) ∨
      (x.2.2.1 = 3 ∧ Cond.methodLink own idx Lib.Math.min.name ∈ pm_U ∧ Cond.static Lib.Math.min.name ∈ pm_U ∧ Cond.initialized "java/lang/Math" ∈ pm_U ∧ Cond.code Lib.Math.min.name Lib.Math.min.code 2 (some .int) ∈ pm_U) ∨
      (x.2.2.1 = 4 ∧ Cond.methodLink own idx Lib.Math.abs.name ∈ pm_U ∧ Cond.static Lib.Math.abs.name ∈ pm_U ∧ Cond.initialized "java/lang/Math" ∈ pm_U ∧ Cond.code Lib.Math.abs.name Lib.Math.abs.code 1 (some .int) ∈ pm_U) ∨
      (x.2.2.1 = 0 ∧ ∃ M, pm_get T x.1 = some M ∧ pm_gm M x.2.1 ∧ Cond.methodLink own idx M.1 ∈ pm_U ∧ Cond.static M.1 ∈ pm_U)
  | .invokevirtual idx => ∃ M, pm_get T x.1 = some M ∧ pm_gm M x.2.1 ∧ Cond.methodLink own idx M.1 ∈ pm_U ∧ Cond.instanceMethod M.1 ∈ pm_U ∧ Cond.selects M.1.cls M.1 M.1 ∈ pm_U ∧
      ((x.2.2.1 = 100 ∧ M.1.cls = "java/lang/String") ∨ (x.2.2.1.toNat ≠ 100 ∧ ∃ r : vw_C, vwCl[x.2.2.1.toNat]? = some r ∧ r.1 = M.1.cls))
  | .invokespecial idx => (x.2.2.1 = 1 ∧ Cond.methodLink own idx objectInit ∈ pm_U ∧ Cond.instanceMethod objectInit ∈ pm_U ∧ Cond.code objectInit ⟨#[0xb1]⟩ 1 none ∈ pm_U) ∨
      (x.2.2.1 = 0 ∧ ∃ M, pm_get T x.1 = some M ∧ pm_gm M x.2.1 ∧ M.1.name = "<init>" ∧ M.2.2.2.1 = none ∧ Cond.instanceMethod M.1 ∈ pm_U ∧ (Cond.methodLink own idx M.1 ∈ pm_U ∨ ∃ q ∈ pm_nst, q.1 = own ∧ q.2.1 = idx ∧ q.2.2.1 = M.1))
  | .ifCond _ off => 0 ≤ (pc : Int) + off
  | .if_icmp _ off => 0 ≤ (pc : Int) + off
  | .goto off => 0 ≤ (pc : Int) + off
  | .tableswitch dflt _ _ offs => 0 ≤ (pc : Int) + dflt ∧ ∀ o ∈ offs.toList, 0 ≤ (pc : Int) + o
  | .lookupswitch dflt ps => (ps.toList.zip (ps.toList.drop 1)).all (fun (a, next) => a.1 < next.1) = true ∧ 0 ≤ (pc : Int) + dflt ∧ ∀ q ∈ ps.toList, 0 ≤ (pc : Int) + q.2
  | .ireturn => (x.1 = 0 ∧ ret = some .int) ∨ (x.1 = 1 ∧ ret = some .boolean) ∨ (x.1 = 2 ∧ ret = some .byte)
  | .lreturn => ret = some .long
  | .areturn => ∃ n, ret = some (.object n)
  | .return_ => ret = none
  | _ => True
def pm_len (ins : Instr) (x : pm_A) : Nat := match ins with
  | .bipush _ => 2
  | .sipush _ => 3
  | .ldc _ => 2
  | .ldc_w _ => 3
  | .ldc2_w _ => 3
  | .getstatic _ => 3
  | .getfield _ => 3
  | .putfield _ => 3
  | .new _ => 3
  | .newarray _ => 2
  | .multianewarray _ _ => 4
  | .invokestatic _ => 3
  | .invokevirtual _ => 3
  | .invokespecial _ => 3
  | .ifCond _ _ => 3
  | .if_icmp _ _ => 3
  | .goto _ => 3
  | .iload _ => 2
  | .lload _ => 2
  | .aload _ => 2
  | .istore _ => 2
  | .lstore _ => 2
  | .astore _ => 2
  | .iinc _ _ => 3
  | .tableswitch _ _ _ _ => x.1
  | .lookupswitch _ _ => x.1
  | _ => 1
theorem goodU : ∀ w ∈ pm_U, w ∈ pm_U ∧ ((w.onTables && w.keeps) = true ∨ ∃ ty, w = .arrayClass ty) := fun w h => ⟨h, good_of_word (List.mem_filter.mp h).2⟩
theorem goodU_cons {M : pm_M} (h : Cond.code M.1 M.2.1 M.2.2.1 M.2.2.2.1 ∈ pm_U) : GoodIn pm_U (Cond.code M.1 M.2.1 M.2.2.1 M.2.2.2.1 :: pm_U) := fun w hw => by
  rcases List.mem_cons.mp hw with rfl | hw
  · exact goodU _ h
  · exact goodU w hw
def pm_rm (d mc ms : Nat) : Room := { frames := d, cells := mc, slots := ms, locals := 64 * d }
def pm_Pc (b : Nat) (ad : Nat → Nat) (ca : Nat → ClassId) (fc : pm_K) (D : va_G) (X : pm_X) (as : List pm_V) (σ : pm_S) : Array Value → State → Prop := fun v U => v = (as.map (pm_val b ad)).toArray ∧ U.heap.size = b + σ.1.length ∧ va_P D vwCl (pm_ws b ad ca fc σ) U.heap ∧ va_K D vwCl (pm_tys ca) U ∧ pm_EX b ad X U U.heap
def pm_Qc (b : Nat) (ad : Nat → Nat) (ca : Nat → ClassId) (fc : pm_K) (D : va_G) (rv : Option pm_V) (σ : pm_S) : Array Value → State → Outcome → State → Prop := fun _ st o t => o = .returned (rv.map (pm_val b ad)) ∧ va_P D vwCl (pm_ws b ad ca fc σ) t.heap ∧ (∀ q : Nat, q < b → t.heap[q]? = st.heap[q]?) ∧ (∀ v, rv = some v → pm_ok v) ∧ pm_mok fc σ
/-- what a call's answer means: from any state that holds the picture the method returns it -/
def pm_Snd (l : Launch) (b : Nat) (ad : Nat → Nat) (ca : Nat → ClassId) (fc : pm_K) (D : va_G) (X : pm_X) (T : List pm_M) (d : Nat) : Prop := ∀ (y n : Nat) (M : pm_M) (as : List pm_V) (σ : pm_S) (rv : Option pm_V) (σ' : pm_S), pm_get T y = some M → pm_gm M n → pm_E T X fc d y as σ = some (rv, σ') → (∀ v ∈ as, pm_ok v) → pm_mok fc σ →
  Met l M.1 (Cond.code M.1 M.2.1 M.2.2.1 M.2.2.2.1 :: pm_U) (pm_rm d (σ'.1.length - σ.1.length) (pm_sl σ'.1 - pm_sl σ.1)) (pm_Pc b ad ca fc D X as σ) (pm_Qc b ad ca fc D rv σ') (σ'.1.length - σ.1.length) (pm_sl σ'.1 - pm_sl σ.1) (fun q => b ≤ q)
section PMS
variable {p : Program} {l : Launch} {e : Env} {R : Room} {s : State} {m : MethodId} {args : Array Value} {below : List Frame} {meth : Method} {c : Code} {Q : State → Prop}
variable {b : Nat} {ad : Nat → Nat} {ca : Nat → ClassId} {fc : pm_K} {D : va_G} {cc : ByteArray} {nL n0 s0 : Nat} {pc pc' : Nat} {ls st st' : List pm_V} {σ : pm_S} {H H1 : Heap} {locs : List Loc} {cells slots : Nat} {X : pm_X} {T : List pm_M} {d : Nat} {own nm : String} {ret : Option FieldType} {ins : Instr} {x : pm_A}
/-- where we stand: what doesn't change through a method's run -/
def pm_Fx (p : Program) (l : Launch) (R : Room) (s : State) (m : MethodId) (args : Array Value) (meth : Method) (c : Code) (b : Nat) (ad : Nat → Nat) (ca : Nat → ClassId) (fc : pm_K) (D : va_G) (nL n0 : Nat) (X : pm_X) (T : List pm_M) (d : Nat) (cc : ByteArray) (own nm : String) : Prop :=
  p.tables.exec = Jvm.exec ∧ c.code = cc ∧ c.maxLocals = nL ∧ s.vm.findClass own = some m.cls ∧ (∀ w ∈ pm_U, w.before args s = true) ∧ va_K D vwCl (pm_tys ca) s ∧ pm_EX b ad X s s.heap ∧ pm_CL fc ∧ s.heap.size = b + n0 ∧ meth.name = nm ∧ d + 1 ≤ R.frames ∧ 64 * d + 64 ≤ R.locals ∧ pm_Snd l b ad ca fc D X T d
theorem pm_pop_eq : ∀ (n : Nat) (acc st as rest : List pm_V), pm_pop n acc st = some (as, rest) → ∃ pre, pre.length = n ∧ st = pre ++ rest ∧ as = pre.reverse ++ acc
  | 0, acc, st, as, rest, h => by cases h; exact ⟨[], rfl, rfl, rfl⟩
  | n + 1, acc, [], as, rest, h => by cases h
  | n + 1, acc, v :: st, as, rest, h => by
    obtain ⟨pre, h1, h2, h3⟩ := pm_pop_eq n (v :: acc) st as rest h
    exact ⟨v :: pre, by simp [h1], by simp [h2], by simp [h3]⟩
theorem pm_after {mc ms : Nat} {rls : Array Slot} {st0 rest : List Value} {rv : Option pm_V} {σ' : pm_S} {a : Array Value} (hr : va_Run p l e R s m args below meth c H locs cells slots mc ms (F0 m pc rls st0) rest (pm_Qc b ad ca fc D rv σ' a) (fun q => b ≤ q)) (h5 : ∀ q ∈ locs, b ≤ q.base)
    (kk : ∀ (H1 : Heap) (locs1 : List Loc), va_P D vwCl (pm_ws b ad ca fc σ') H1 → (∀ q : Nat, q < b → H1[q]? = H[q]?) → (∀ q ∈ locs1, b ≤ q.base) → (∀ v, rv = some v → pm_ok v) → pm_mok fc σ' → W p l e R s m args below meth c H1 locs1 (cells + mc) (slots + ms) Q (F0 m (pc + 3) rls ((rv.map (pm_val b ad)).toList ++ rest))) : W p l e R s m args below meth c H locs cells slots Q (F0 m pc rls st0) := by
  intro T hT Xs
  obtain ⟨v, st₀, t, T', L, hst, X', hL, e1, e2, ⟨ho, hP, hq, hv, hm⟩, go⟩ := hr T hT Xs
  have hv' : v = rv.map (pm_val b ad) := by injection ho
  subst hv'
  subst hst
  obtain ⟨t2, a1, b1⟩ := kk T'.heap (locs ++ L) (by rw [e1]; exact hP) (fun q h => by rw [e1]; exact hq q h) (fun q hq => by
    rcases List.mem_append.mp hq with h | h
    · exact h5 q h
    · exact hL q h) hv hm T' rfl X'
  exact ⟨t2, go t2 a1, b1⟩
theorem pm_blind (b : Nat) (ad : Nat → Nat) (ca : Nat → ClassId) (fc : pm_K) (D : va_G) (X : pm_X) (as : List pm_V) (σ : pm_S) : FrameBlind (pm_Pc b ad ca fc D X as σ) := fun a U g mk h =>
  ⟨h.1, h.2.1, h.2.2.1, va_K.moved (u := U) (U := U.calling g mk a) (Vm.Alike.refl U.vm) h.2.2.2.1, pm_EX.same (u := U) (U := U.calling g mk a) h.2.2.2.2 rfl⟩
theorem pm_pre {as : List pm_V} (hK : va_K D vwCl (pm_tys ca) s) (hEX : pm_EX b ad X s s.heap) (h0 : s.heap.size = b + n0) (h2 : va_P D vwCl (pm_ws b ad ca fc σ) H) (h3 : H.size = b + σ.1.length) (h4 : ∀ q : Nat, q < b → H[q]? = s.heap[q]?) : PreS s H (pm_Pc b ad ca fc D X as σ) (as.map (pm_val b ad)) :=
  ⟨pm_blind b ad ca fc D X as σ, fun U hU hW => ⟨rfl, by rw [hU]; exact h3, by rw [hU]; exact h2, va_K.moved hW.alike hK, by rw [hU]; exact hEX.go hW (by omega) h4⟩⟩
theorem pm_room {r : List pm_V} (hf : pm_fit 4 r = true) {rls : Array Slot} {stk : List Value} : 2 * (F0 m pc rls stk).monitorRoom + ((r.map (pm_val b ad)).map fun v => v.category).sum ≤ 8 := lv_room (pm_fit_le b ad 4 r hf)
/-- behind a call -/
theorem pm_back {as rest : List pm_V} {rv : Option pm_V} {σ' : pm_S} {rls : Array Slot} {st0 : List Value} {a : Array Value} (hgr : pm_gr σ σ') (h0 : s.heap.size = b + n0)
    (hr : va_Run p l e R s m args below meth c H locs cells slots (σ'.1.length - σ.1.length) (pm_sl σ'.1 - pm_sl σ.1) (F0 m pc rls st0) (rest.map (pm_val b ad)) (pm_Qc b ad ca fc D rv σ' a) (fun q => b ≤ q))
    (h1 : lv_has rls nL (pm_lv b ad 0 ls)) (h4 : ∀ q : Nat, q < b → H[q]? = s.heap[q]?) (h5 : ∀ q ∈ locs, b ≤ q.base) (h6l : ∀ v ∈ ls, pm_ok v) (h6r : ∀ v ∈ rest, pm_ok v) (h7 : cells + n0 = σ.1.length) (h8 : slots + s0 = pm_sl σ.1)
    (kk : pm_W p l e R s m args below meth c Q b ad ca fc D nL n0 s0 (pc + 3, ls, pm_psh rv rest, σ')) : W p l e R s m args below meth c H locs cells slots Q (F0 m pc rls st0) := by
  obtain ⟨g1, g2⟩ := hgr
  refine pm_after hr h5 (fun H1 locs1 hP1 hq1 hl1 hv hm => ?_)
  have hc1 : cells + (σ'.1.length - σ.1.length) + n0 = σ'.1.length := by omega
  have hc2 : slots + (pm_sl σ'.1 - pm_sl σ.1) + s0 = pm_sl σ'.1 := by omega
  refine pm_szW h0 hP1 hc1 (fun hz => ?_)
  cases rv with
  | none => exact kk H1 locs1 rls _ _ h1 hP1 hz (fun q h => (hq1 q h).trans (h4 q h)) hl1 ⟨h6l, h6r, hm⟩ hc1 hc2
  | some v => exact kk H1 locs1 rls _ _ h1 hP1 hz (fun q h => (hq1 q h).trans (h4 q h)) hl1 ⟨h6l, ok_c (hv v rfl) h6r, hm⟩ hc1 hc2
theorem pm_wsS {M : pm_M} {idx n : Nat} (hg : pm_gm M n) (h1 : Cond.methodLink own idx M.1 ∈ pm_U) (h2 : Cond.static M.1 ∈ pm_U) : GoodIn pm_U (va_wsS own idx M.1 (Cond.code M.1 M.2.1 M.2.2.1 M.2.2.2.1 :: pm_U)) := fun w hw => by
  unfold va_wsS at hw
  rcases List.mem_append.mp hw with hw | hw
  · simp only [List.mem_cons, List.not_mem_nil, or_false] at hw
    rcases hw with rfl | rfl | rfl
    · exact goodU _ h1
    · exact goodU _ h2
    · exact goodU _ hg.2.2.2.2
  · exact goodU_cons hg.2.2.2.1 w hw
theorem pm_wsV {M : pm_M} {idx n : Nat} (hg : pm_gm M n) (h1 : Cond.methodLink own idx M.1 ∈ pm_U) (h2 : Cond.instanceMethod M.1 ∈ pm_U) (h3 : Cond.selects M.1.cls M.1 M.1 ∈ pm_U) : GoodIn pm_U (wsV own idx M.1.cls M.1 (Cond.code M.1 M.2.1 M.2.2.1 M.2.2.2.1 :: pm_U)) := fun w hw => by
  unfold wsV at hw
  rcases List.mem_append.mp hw with hw | hw
  · simp only [List.mem_cons, List.not_mem_nil, or_false] at hw
    rcases hw with rfl | rfl | rfl | rfl
    · exact goodU _ h1
    · exact goodU _ h2
    · exact goodU _ h3
    · exact goodU _ hg.2.2.2.2
  · exact goodU_cons hg.2.2.2.1 w hw
theorem pm_hR {M : pm_M} {n mc ms : Nat} (hg : pm_gm M n) (h1 : d + 1 ≤ R.frames) (h2 : 64 * d + 64 ≤ R.locals) : (pm_rm d mc ms).frames + 1 ≤ R.frames ∧ 8 + (M.2.2.1 + 11) + (pm_rm d mc ms).locals ≤ R.locals := by
  have h3 := hg.2.1
  exact ⟨h1, by show 8 + (M.2.2.1 + 11) + 64 * d ≤ R.locals; omega⟩
theorem pm_s_callS {idx y n : Nat} {M : pm_M} {g' : pm_F} (F : pm_Fx p l R s m args meth c b ad ca fc D nL n0 X T d cc own nm) (hM : pm_get T y = some M) (hg : pm_gm M n) (hl : Cond.methodLink own idx M.1 ∈ pm_U) (hs : Cond.static M.1 ∈ pm_U) (hd : decode cc pc = .ok (.invokestatic idx, 3)) (h : pm_callS (pm_E T X fc d) y n pc ls st σ = some (.inl g'))
    (hroom : g'.2.2.2.1.length ≤ R.cells + n0 ∧ pm_sl g'.2.2.2.1 ≤ R.slots + s0) (kk : pm_W p l e R s m args below meth c Q b ad ca fc D nL n0 s0 g') : pm_W p l e R s m args below meth c Q b ad ca fc D nL n0 s0 (pc, ls, st, σ) := by
  obtain ⟨hx, hb, hml, hown, hts, hK, hEX, hC, h0, hnm, hfr, hlo, hSnd⟩ := F
  obtain ⟨as, rest, hp, hc⟩ := pm_callS_inv h
  obtain ⟨rv, σ', hfit, hE, ge⟩ := pm_call_inv hc
  cases ge
  have hgr := pm_E_gr d _ _ _ _ _ hE
  have g1 := hgr.1
  have g2 := hgr.2
  obtain ⟨pre, p1, p2, p3⟩ := pm_pop_eq _ _ _ _ _ hp
  rw [List.append_nil] at p3
  intro H locs rls cells slots h1 h2 h3 h4 h5 h6 h7 h8
  have h7 : cells + n0 = σ.1.length := h7
  have h8 : slots + s0 = pm_sl σ.1 := h8
  have ha : ∀ v ∈ as, pm_ok v := fun v hv => h6.2.1 v (by show v ∈ st; rw [p2]; rw [p3] at hv; exact List.mem_append_left _ (List.mem_reverse.mp hv))
  have hr : ∀ v ∈ rest, pm_ok v := fun v hv => h6.2.1 v (by show v ∈ st; rw [p2]; exact List.mem_append_right _ hv)
  have hMet := hSnd y n M as σ rv σ' hM hg hE ha h6.2.2
  have hr1 : σ'.1.length ≤ R.cells + n0 := hroom.1
  have hr2 : pm_sl σ'.1 ≤ R.slots + s0 := hroom.2
  exact pm_back (as := as) hgr h0 (va_runS ⟨hx, hb, hml, hown, hts⟩ hMet (va_cwS n hts (pm_wsS hg hl hs) rfl rfl rfl hg.2.2.1 (pm_hR hg hfr hlo)) (pm_pre hK hEX h0 h2 h3 h4) rfl (by rw [List.length_map, p3, List.length_reverse]; exact p1) h1.1 (by show st.map (pm_val b ad) = _; rw [p2, p3]; simp) (pm_room hfit) hd ⟨by omega, by omega⟩) h1 h4 h5 h6.1 hr h7 h8 kk
theorem pm_s_callV {idx y n z : Nat} {M : pm_M} {g' : pm_F} (F : pm_Fx p l R s m args meth c b ad ca fc D nL n0 X T d cc own nm) (hM : pm_get T y = some M) (hg : pm_gm M n) (hl : Cond.methodLink own idx M.1 ∈ pm_U) (hs : Cond.instanceMethod M.1 ∈ pm_U) (hse : Cond.selects M.1.cls M.1 M.1 ∈ pm_U)
    (hz : (z = 100 ∧ M.1.cls = "java/lang/String") ∨ (z ≠ 100 ∧ ∃ r : vw_C, vwCl[z]? = some r ∧ r.1 = M.1.cls)) (hd : decode cc pc = .ok (.invokevirtual idx, 3)) (h : pm_callV (pm_E T X fc d) y n z pc ls st σ = some (.inl g'))
    (hroom : g'.2.2.2.1.length ≤ R.cells + n0 ∧ pm_sl g'.2.2.2.1 ≤ R.slots + s0) (kk : pm_W p l e R s m args below meth c Q b ad ca fc D nL n0 s0 g') : pm_W p l e R s m args below meth c Q b ad ca fc D nL n0 s0 (pc, ls, st, σ) := by
  obtain ⟨hx, hb, hml, hown, hts, hK, hEX, hC, h0, hnm, hfr, hlo, hSnd⟩ := F
  obtain ⟨as, rest, hp, hrc, hc⟩ := pm_callV_inv h
  obtain ⟨rv, σ', hfit, hE, ge⟩ := pm_call_inv hc
  cases ge
  have hgr := pm_E_gr d _ _ _ _ _ hE
  have g1 := hgr.1
  have g2 := hgr.2
  obtain ⟨pre, p1, p2, p3⟩ := pm_pop_eq _ _ _ _ _ hp
  rw [List.append_nil] at p3
  obtain ⟨i, as', rfl, hi⟩ : ∃ i as', as = (2, .ofNat i) :: as' ∧ ((z = 100 ∧ 2000 ≤ i ∧ i < 2010) ∨ (z ≠ 100 ∧ ∃ k, pm_get σ.1 i = some (0, z, k))) := by
    unfold pm_recv at hrc
    split at hrc
    · split at hrc
      · next hz => exact ⟨_, _, rfl, Or.inl ⟨hz, of_decide_eq_true hrc⟩⟩
      · next hz =>
        split at hrc
        · next hgt =>
          have := of_decide_eq_true hrc
          subst this
          exact ⟨_, _, rfl, Or.inr ⟨hz, _, hgt⟩⟩
        · cases hrc
    · cases hrc
  intro H locs rls cells slots h1 h2 h3 h4 h5 h6 h7 h8
  have h7 : cells + n0 = σ.1.length := h7
  have h8 : slots + s0 = pm_sl σ.1 := h8
  have hpre : pre = as'.reverse ++ [(2, .ofNat i)] := by
    have := congrArg List.reverse p3
    rw [List.reverse_reverse] at this
    rw [← this]; simp
  have ha : ∀ v ∈ (2, .ofNat i) :: as', pm_ok v := fun v hv => h6.2.1 v (by show v ∈ st; rw [p2]; rw [p3] at hv; exact List.mem_append_left _ (List.mem_reverse.mp hv))
  have hr : ∀ v ∈ rest, pm_ok v := fun v hv => h6.2.1 v (by show v ∈ st; rw [p2]; exact List.mem_append_right _ hv)
  have hMet := hSnd y n M _ σ rv σ' hM hg hE ha h6.2.2
  have hr1 : σ'.1.length ≤ R.cells + n0 := hroom.1
  have hr2 : pm_sl σ'.1 ≤ R.slots + s0 := hroom.2
  have hcell : ∃ cellB : Cell, H[pm_ad b ad i]? = some cellB ∧ cellB.vm.isStatics = false ∧ s.vm.findClass M.1.cls = some cellB.cls := by
    rcases hz with ⟨hz1, hz2⟩ | ⟨hz1, r, hz2, hz3⟩
    · rcases hi with ⟨-, hi1, hi2⟩ | ⟨hi1, -⟩
      · have hO := (hEX.2.2.1 (i - 2000) (by omega)).1
        rw [show 2000 + (i - 2000) = i by omega] at hO
        obtain ⟨cellB, q1, q2, q3⟩ := va_Orecv hO (pm_toS h0 h4 h5 h7 h3)
        refine ⟨cellB, ?_, q2, by rw [hz2]; exact q3⟩
        unfold pm_ad
        rw [if_neg (by omega)]
        exact q1
      · exact absurd hz1 hi1
    · rcases hi with ⟨hi1, -⟩ | ⟨-, k, hi2⟩
      · exact absurd hi1 hz1
      · obtain ⟨cellB, q1, q2, q3⟩ := va_recv hK h2 hz2 (pm_ws_at hi2)
        refine ⟨cellB, ?_, q2, by rw [← hz3]; exact q3⟩
        rw [pm_ad_lt (Nat.lt_of_lt_of_le (pm_get_lt hi2) h6.2.2.1.1)]
        exact q1
  obtain ⟨hb1, hb2⟩ := pm_pre (as := (2, .ofNat i) :: as') hK hEX h0 h2 h3 h4
  exact pm_back (as := as') hgr h0 (va_runV (C := M.1.cls) (As := as'.map (pm_val b ad)) ⟨hx, hb, hml, hown, hts⟩ hMet (cwV n hts (pm_wsV hg hl hs hse) rfl rfl rfl ⟨rfl, hg.2.2.1⟩ (pm_hR hg hfr hlo)) ⟨hb1, hcell, hb2⟩ rfl (by rw [hpre] at p1; simp at p1; simp [p1]) h1.1 (by show st.map (pm_val b ad) = _; rw [p2, hpre]; simp; rfl) (pm_room hfit) hd ⟨by omega, by omega⟩) h1 h4 h5 h6.1 hr h7 h8 kk
theorem pm_s_callI {idx y n : Nat} {M : pm_M} {g' : pm_F} (F : pm_Fx p l R s m args meth c b ad ca fc D nL n0 X T d cc own nm) (hM : pm_get T y = some M) (hg : pm_gm M n) (hin : M.1.name = "<init>") (hrt : M.2.2.2.1 = none) (hs : Cond.instanceMethod M.1 ∈ pm_U) (hl : Cond.methodLink own idx M.1 ∈ pm_U ∨ ∃ q ∈ pm_nst, q.1 = own ∧ q.2.1 = idx ∧ q.2.2.1 = M.1)
    (hd : decode cc pc = .ok (.invokespecial idx, 3)) (h : pm_callI (pm_E T X fc d) y n pc ls st σ = some (.inl g'))
    (hroom : g'.2.2.2.1.length ≤ R.cells + n0 ∧ pm_sl g'.2.2.2.1 ≤ R.slots + s0) (kk : pm_W p l e R s m args below meth c Q b ad ca fc D nL n0 s0 g') : pm_W p l e R s m args below meth c Q b ad ca fc D nL n0 s0 (pc, ls, st, σ) := by
  obtain ⟨hx, hb, hml, hown, hts, hK, hEX, hC, h0, hnm, hfr, hlo, hSnd⟩ := F
  obtain ⟨as, rest, hp, hrc, hc⟩ := pm_callI_inv h
  obtain ⟨rv, σ', hfit, hE, ge⟩ := pm_call_inv hc
  cases ge
  have hgr := pm_E_gr d _ _ _ _ _ hE
  have g1 := hgr.1
  have g2 := hgr.2
  obtain ⟨pre, p1, p2, p3⟩ := pm_pop_eq _ _ _ _ _ hp
  rw [List.append_nil] at p3
  obtain ⟨i, as', rfl⟩ : ∃ i as', as = (2, .ofNat i) :: as' := by
    unfold pm_ref0 at hrc
    split at hrc
    · exact ⟨_, _, rfl⟩
    · cases hrc
  intro H locs rls cells slots h1 h2 h3 h4 h5 h6 h7 h8
  have h7 : cells + n0 = σ.1.length := h7
  have h8 : slots + s0 = pm_sl σ.1 := h8
  have hpre : pre = as'.reverse ++ [(2, .ofNat i)] := by
    have := congrArg List.reverse p3
    rw [List.reverse_reverse] at this
    rw [← this]; simp
  have ha : ∀ v ∈ (2, .ofNat i) :: as', pm_ok v := fun v hv => h6.2.1 v (by show v ∈ st; rw [p2]; rw [p3] at hv; exact List.mem_append_left _ (List.mem_reverse.mp hv))
  have hr : ∀ v ∈ rest, pm_ok v := fun v hv => h6.2.1 v (by show v ∈ st; rw [p2]; exact List.mem_append_right _ hv)
  have hMet := hSnd y n M _ σ rv σ' hM hg hE ha h6.2.2
  have hr1 : σ'.1.length ≤ R.cells + n0 := hroom.1
  have hr2 : pm_sl σ'.1 ≤ R.slots + s0 := hroom.2
  have hpp := pm_pre (as := (2, .ofNat i) :: as') hK hEX h0 h2 h3 h4
  have hgood := goodU_cons hg.2.2.2.1
  rw [hrt] at hMet hgood
  rcases hl with hl | ⟨q, hq, hq1, hq2, hq3⟩
  · exact pm_back (as := as') hgr h0 (va_runI (As := as'.map (pm_val b ad)) ⟨hx, hb, hml, hown, hts⟩ hMet (cwI n hts hgood rfl rfl rfl (hts _ hg.2.2.2.2) (hts _ hl) (hts _ hs) hin hg.2.2.1 (pm_hR hg hfr hlo)) hpp rfl (by rw [hpre] at p1; simp at p1; simp [p1]) h1.1 (by show st.map (pm_val b ad) = _; rw [p2, hpre]; simp; rfl) (pm_room hfit) hd ⟨by omega, by omega⟩) h1 h4 h5 h6.1 hr h7 h8 kk
  · have hnw := hEX.2.2.2.2.1 q hq
    rw [hq1, hq2, hq3] at hnw
    exact pm_back (as := as') hgr h0 (va_runIN (host := q.2.2.2) (As := as'.map (pm_val b ad)) ⟨hx, hb, hml, hown, hts⟩ hMet ⟨va_cnB n hts hgood rfl rfl rfl hnw (hts _ hg.2.2.2.2) hg.2.2.1 (pm_hR hg hfr hlo), hin, hts _ hs⟩ hpp rfl (by rw [hpre] at p1; simp at p1; simp [p1]) h1.1 (by show st.map (pm_val b ad) = _; rw [p2, hpre]; simp; rfl) (pm_room hfit) hd ⟨by omega, by omega⟩) h1 h4 h5 h6.1 hr h7 h8 kk
end PMS
end
section
/-! ONE STEP, A RUN, AND THE THEOREM: what the pure machine answers, the machine answers -/
theorem i8_lit {n : Int} (h1 : -128 ≤ n) (h2 : n ≤ 127) : (Int8.ofInt n).toInt32 = Int32.ofInt n := by
  apply i32_ext
  have e : (Int8.ofInt n).toInt = n := by
    rw [Int8.toInt_ofInt]
    show n.bmod 256 = n
    rw [Int.bmod_def]
    split <;> omega
  rw [Int8.toInt_toInt32, e, i32_in (by omega)]
theorem i16_lit {n : Int} (h1 : -32768 ≤ n) (h2 : n ≤ 32767) : (Int16.ofInt n).toInt32 = Int32.ofInt n := by
  apply i32_ext
  have e : (Int16.ofInt n).toInt = n := by
    rw [Int16.toInt_ofInt]
    show n.bmod 65536 = n
    rw [Int.bmod_def]
    split <;> omega
  rw [Int16.toInt_toInt32, e, i32_in (by omega)]
section PMT
variable {p : Program} {l : Launch} {e : Env} {R : Room} {s : State} {m : MethodId} {args : Array Value} {below : List Frame} {meth : Method} {c : Code} {Q : State → Prop}
variable {b : Nat} {ad : Nat → Nat} {ca : Nat → ClassId} {fc : pm_K} {D : va_G} {cc : ByteArray} {nL n0 s0 : Nat} {pc pc' : Nat} {ls st st' : List pm_V} {σ : pm_S} {H H1 : Heap} {locs : List Loc} {cells slots : Nat} {X : pm_X} {T : List pm_M} {d : Nat} {own nm : String} {ret : Option FieldType} {x : pm_A}
theorem pm_tsw_mem {dflt lo hi z o : Int} {offs : Array Int} (h : pm_tsw dflt lo hi offs z = some o) : o = dflt ∨ o ∈ offs.toList := by
  unfold pm_tsw at h
  split at h
  · exact Or.inl (Option.some.inj h).symm
  · exact Or.inr (pm_get_mem h)
theorem pm_lsw_mem {dflt z : Int} : ∀ {l : List (Int × Int)}, Op.lookupswitch.offset l dflt z = dflt ∨ ∃ q ∈ l, Op.lookupswitch.offset l dflt z = q.2
  | [] => Or.inl rfl
  | (a, o) :: l => by
    have e1 : Op.lookupswitch.offset ((a, o) :: l) dflt z = if a = z then o else Op.lookupswitch.offset l dflt z := by simp [Op.lookupswitch.offset]
    rw [e1]
    by_cases hz : a = z
    · rw [if_pos hz]
      exact Or.inr ⟨(a, o), by simp, rfl⟩
    · rw [if_neg hz]
      rcases pm_lsw_mem (dflt := dflt) (z := z) (l := l) with h | ⟨q, h1, h2⟩
      · exact Or.inl h
      · exact Or.inr ⟨q, List.mem_cons_of_mem _ h1, h2⟩
theorem pm_s_getS {k idx : Nat} {g' : pm_F} (hx : p.tables.exec = Jvm.exec) (hb : c.code = cc) (hts : ∀ w ∈ pm_U, w.before args s = true) (hown : s.vm.findClass own = some m.cls) (h0 : s.heap.size = b + n0) (hEX : pm_EX b ad X s s.heap)
    (hw : (k = 0 ∧ Cond.fieldLink own idx "java/lang/String" "value" "[B" ∈ pm_U) ∨ (k = 1 ∧ Cond.fieldLink own idx "java/lang/String" "coder" "B" ∈ pm_U)) (hd : decode cc pc = .ok (.getfield idx, 3)) (h : pm_getS k pc ls st σ = some (.inl g')) (kk : pm_W p l e R s m args below meth c Q b ad ca fc D nL n0 s0 g') : pm_W p l e R s m args below meth c Q b ad ca fc D nL n0 s0 (pc, ls, st, σ) := by
  obtain ⟨i, r, v, rfl, hi1, hi2, hv, ge⟩ := pm_getS_inv h
  cases ge
  intro H locs rls cells slots h1 h2 h3 h4 h5 h6 h7 h8
  obtain ⟨-, q2, q3⟩ := hEX.2.2.1 (i - 2000) (by omega)
  rw [show 2000 + (i - 2000) = i by omega] at q2 q3
  have ei : pm_val b ad (2, .ofNat i) = .ref (ad i) := by
    show Value.ref (pm_ad b ad i) = _
    unfold pm_ad
    rw [if_neg (by omega)]
  show W p l e R s m args below meth c H locs cells slots Q (F0 m pc rls (pm_val b ad (2, .ofNat i) :: r.map (pm_val b ad)))
  rw [ei]
  have hS := pm_toS h0 h4 h5 h7 h3
  rcases hw with ⟨rfl, hw⟩ | ⟨rfl, hw⟩
  · rcases hv with ⟨-, rfl⟩ | ⟨hk, -⟩
    · refine vk_getf hx hb q3 hS hown (hts _ hw) (fun x hx => hx) hd ?_
      have last := kk H locs rls cells slots h1 h2 h3 h4 h5 ⟨h6.1, ok_c trivial (ok1 h6.2.1).2, h6.2.2⟩ h7 h8
      have ev : pm_val b ad (2, .ofNat (i - 2000 + 1010)) = .ref (ad (1010 + (i - 2000))) := by
        show Value.ref (pm_ad b ad _) = _
        unfold pm_ad
        rw [if_neg (by omega), Nat.add_comm]
      rw [List.map_cons, ev] at last
      exact last
    · exact absurd rfl hk
  · rcases hv with ⟨hk, -⟩ | ⟨-, rfl⟩
    · cases hk
    · exact vk_getf hx hb q2 hS hown (hts _ hw) (fun x hx => hx) hd (kk H locs rls cells slots h1 h2 h3 h4 h5 ⟨h6.1, ok_c (by exact ⟨by decide, by decide⟩) (ok1 h6.2.1).2, h6.2.2⟩ h7 h8)
theorem pm_cpy_ne {μ : Nat → Nat → Int} {sr dd sp dp n : Nat} : ∀ i, i ≠ dd → ∀ k, pm_cpy μ sr dd sp dp n i k = μ i k := fun i hi k => if_neg (fun h => hi h.1)
theorem pm_s_copy {idx : Nat} {g' : pm_F} (F : pm_Fx p l R s m args meth c b ad ca fc D nL n0 X T d cc own nm) (hw1 : Cond.methodLink own idx arraycopyName ∈ pm_U) (hw2 : Cond.native arraycopyName ∈ pm_U) (hw3 : Cond.static arraycopyName ∈ pm_U) (hw4 : Cond.initialized "java/lang/System" ∈ pm_U)
    (hd : decode cc pc = .ok (.invokestatic idx, 3)) (h : pm_copy pc ls st σ = some (.inl g')) (kk : pm_W p l e R s m args below meth c Q b ad ca fc D nL n0 s0 g') : pm_W p l e R s m args below meth c Q b ad ca fc D nL n0 s0 (pc, ls, st, σ) := by
  obtain ⟨hx, hb, hml, hown, hts, hK, hEX, hC, h0, hnm, hfr, hlo, hSnd⟩ := F
  obtain ⟨n, dp, dd, sp, sr, r, ns, nd, t, rfl, hgs, hgd, hfit, ht, hsp, hdp, hn, hb1, hb2, ge⟩ := pm_copy_inv h
  cases ge
  intro H locs rls cells slots h1 h2 h3 h4 h5 h6 h7 h8
  have o1 : pm_ok (0, n) := h6.2.1 _ (by simp)
  have o2 : pm_ok (0, dp) := h6.2.1 _ (by simp)
  have o3 : pm_ok (0, sp) := h6.2.1 _ (by simp)
  have or : ∀ v ∈ r, pm_ok v := fun v hv => h6.2.1 v (by simp [hv])
  have eN := i32_nat hn o1.2
  have eD := i32_nat hdp o2.2
  have eS := i32_nat hsp o3.2
  have neg : ∀ z : Int, 0 ≤ z → pm_ok (0, z) → ¬ Int32.ofInt z < 0 := fun z h0 hz q => by
    rw [Int32.lt_iff_toInt_lt, i32_in hz] at q
    simp at q
    omega
  have hlen : σ.1.length ≤ 1000 := h6.2.2.1.1
  have es : pm_val b ad (2, .ofNat sr) = .ref (b + sr) := pm_val_own (Nat.lt_of_lt_of_le (pm_get_lt hgs) hlen)
  have ed : pm_val b ad (2, .ofNat dd) = .ref (b + dd) := pm_val_own (Nat.lt_of_lt_of_le (pm_get_lt hgd) hlen)
  have hloc : ((r.map (pm_val b ad)).map fun v => v.category).sum + (nativeFrameWords "java/lang/System" "arraycopy" 5 + 11) ≤ R.locals := by
    have := pm_fit_le b ad 4 r hfit
    have e7 : nativeFrameWords "java/lang/System" "arraycopy" 5 = 7 := by decide
    rw [e7]
    omega
  show W p l e R s m args below meth c H locs cells slots Q (F0 m pc rls (.int (Int32.ofInt n) :: .int (Int32.ofInt dp) :: pm_val b ad (2, .ofNat dd) :: .int (Int32.ofInt sp) :: pm_val b ad (2, .ofNat sr) :: r.map (pm_val b ad)))
  rw [es, ed]
  have hmok : pm_mok fc (σ.1, pm_cpy σ.2 sr dd sp.toNat dp.toNat n.toNat) := by
    refine ⟨h6.2.2.1, fun i sh hi k hk => ?_⟩
    show pm_good fc sh k (if i = dd ∧ dp.toNat ≤ k ∧ k < dp.toNat + n.toNat then σ.2 sr (sp.toNat + (k - dp.toNat)) else σ.2 i k)
    by_cases hc : i = dd ∧ dp.toNat ≤ k ∧ k < dp.toNat + n.toNat
    · rw [if_pos hc]
      obtain ⟨rfl, hc1, hc2⟩ := hc
      have hi' : pm_get σ.1 i = some sh := hi
      rw [hgd] at hi'
      cases hi'
      have hv := h6.2.2.2 sr _ hgs (sp.toNat + (k - dp.toNat)) (by show _ < ns; omega)
      rcases ht with rfl | rfl
      · exact hv
      · exact hv
    · rw [if_neg hc]
      exact h6.2.2.2 i sh hi k hk
  have hls : c.maxLocals = rls.size := by rw [hml]; exact h1.1.symm
  have hS := pm_toS h0 h4 h5 h7 h3
  have fin : ∀ (H1 : Heap) (locs1 : List Loc), va_P D vwCl ((pm_ws b ad ca fc σ).set dd (b + dd, pm_cell b ad ca fc (pm_cpy σ.2 sr dd sp.toNat dp.toNat n.toNat) dd (1, t, nd))) H1 → va_S (fun q => b ≤ q) s.heap H1 locs1 → W p l e R s m args below meth c H1 locs1 cells slots Q (F0 m (pc + 3) rls (r.map (pm_val b ad))) := by
    intro H1 locs1 hP1 hS1
    rw [pm_ws_set (L := σ.1) (μ := σ.2) hgd pm_cpy_ne] at hP1
    obtain ⟨q1, q2⟩ := pm_ofS h0 hS1
    refine pm_szW h0 hP1 h7 (fun hz => ?_)
    exact kk H1 locs1 rls cells slots h1 hP1 hz q1 q2 ⟨h6.1, or, hmok⟩ h7 h8
  rcases ht with rfl | rfl
  · refine va_copyi hx hb hls hown (hts _ hw1) (hts _ hw2) (hts _ hw3) (hts _ hw4) hK h2 (pm_D b ad ca fc σ) hS sr dd 0 0 (pm_ws_at hgs) (pm_ws_at hgd) rfl rfl rfl (neg sp hsp o3) (neg dp hdp o2) (neg n hn o1) (by rw [eS, eN]; omega) (by rw [eD, eN]; omega) (fun i _ => rfl) (by omega) hloc hd (fun H1 locs1 hP1 _ hS1 => fin H1 locs1 ?_ hS1)
    have ec : pm_cell b ad ca fc (pm_cpy σ.2 sr dd sp.toNat dp.toNat n.toNat) dd (1, 0, nd) = .inl (ca 0, nd, .inl (va_cpy (fun j => Int32.ofInt (σ.2 sr j)) (fun j => Int32.ofInt (σ.2 dd j)) (Int32.ofInt sp).toNatClampNeg (Int32.ofInt dp).toNatClampNeg (Int32.ofInt n).toNatClampNeg)) := by
      show Sum.inl (ca 0, nd, Sum.inl _) = _
      congr 4
      funext j
      rw [eS, eD, eN]
      show Int32.ofInt (if dd = dd ∧ dp.toNat ≤ j ∧ j < dp.toNat + n.toNat then _ else _) = if dp.toNat ≤ j ∧ j < dp.toNat + n.toNat then _ else _
      by_cases hc : dp.toNat ≤ j ∧ j < dp.toNat + n.toNat
      · rw [if_pos ⟨rfl, hc⟩, if_pos hc]
      · rw [if_neg (fun q => hc q.2), if_neg hc]
    rw [ec]
    exact hP1
  · refine va_copyl hx hb hls hown (hts _ hw1) (hts _ hw2) (hts _ hw3) (hts _ hw4) hK h2 (pm_D b ad ca fc σ) hS sr dd 1 1 (pm_ws_at hgs) (pm_ws_at hgd) rfl rfl rfl (neg sp hsp o3) (neg dp hdp o2) (neg n hn o1) (by rw [eS, eN]; omega) (by rw [eD, eN]; omega) (fun i _ => rfl) (by omega) hloc hd (fun H1 locs1 hP1 _ hS1 => fin H1 locs1 ?_ hS1)
    have ec : pm_cell b ad ca fc (pm_cpy σ.2 sr dd sp.toNat dp.toNat n.toNat) dd (1, 1, nd) = .inl (ca 1, nd, .inr (.inl (va_cpy (fun j => Int64.ofInt (σ.2 sr j)) (fun j => Int64.ofInt (σ.2 dd j)) (Int32.ofInt sp).toNatClampNeg (Int32.ofInt dp).toNatClampNeg (Int32.ofInt n).toNatClampNeg))) := by
      show Sum.inl (ca 1, nd, Sum.inr (Sum.inl _)) = _
      congr 5
      funext j
      rw [eS, eD, eN]
      show Int64.ofInt (if dd = dd ∧ dp.toNat ≤ j ∧ j < dp.toNat + n.toNat then _ else _) = if dp.toNat ≤ j ∧ j < dp.toNat + n.toNat then _ else _
      by_cases hc : dp.toNat ≤ j ∧ j < dp.toNat + n.toNat
      · rw [if_pos ⟨rfl, hc⟩, if_pos hc]
      · rw [if_neg (fun q => hc q.2), if_neg hc]
    rw [ec]
    exact hP1
theorem pm_dup1 {t : Nat} {v : Int} (h : t = 0 ∨ t = 2) : (pm_val b ad (t, v)).category = 1 := pm_cat b ad (t, v) (by show t ≠ 1; omega)
set_option maxHeartbeats 4000000 in
theorem pm_s_step {ins : Instr} {g' : pm_F} (F : pm_Fx p l R s m args meth c b ad ca fc D nL n0 X T d cc own nm) (hn : ls.length ≤ nL) (hd : decode cc pc = .ok (ins, pm_len ins x)) (hw : pm_wd T own nm ret pc ins x) (h : pm_exec (pm_E T X fc d) X fc ins x pc ls st σ = some (.inl g'))
    (hroom : g'.2.2.2.1.length ≤ R.cells + n0 ∧ pm_sl g'.2.2.2.1 ≤ R.slots + s0) (kk : pm_W p l e R s m args below meth c Q b ad ca fc D nL n0 s0 g') : pm_W p l e R s m args below meth c Q b ad ca fc D nL n0 s0 (pc, ls, st, σ) := by
  have F0' := F
  obtain ⟨hx, hb, hml, hown, hts, hK, hEX, hC, h0, hnm, hfr, hlo, hSnd⟩ := F
  have K : ∀ g'' : pm_F, (Sum.inl g' : pm_F ⊕ pm_R) = .inl g'' → pm_W p l e R s m args below meth c Q b ad ca fc D nL n0 s0 g'' := fun g'' q => by cases q; exact kk
  have RM : ∀ g'' : pm_F, (Sum.inl g' : pm_F ⊕ pm_R) = .inl g'' → g''.2.2.2.1.length ≤ R.cells + n0 ∧ pm_sl g''.2.2.2.1 ≤ R.slots + s0 := fun g'' q => by cases q; exact hroom
  cases ins with
  | iconst n => exact pm_s_push (v := (0, n)) h (by exact ⟨by have := hw.1; omega, by have := hw.2; omega⟩) (fun H locs rls cells slots rest k => lv_iconst hx hb hd rfl k) K
  | bipush n => exact pm_s_push (v := (0, n)) h (by exact ⟨by have := hw.1; omega, by have := hw.2; omega⟩) (fun H locs rls cells slots rest k => lv_bipush hx hb hd (i8_lit hw.1 hw.2) k) K
  | sipush n => exact pm_s_push (v := (0, n)) h (by exact ⟨by have := hw.1; omega, by have := hw.2; omega⟩) (fun H locs rls cells slots rest k => lv_sipush hx hb hd (i16_lit hw.1 hw.2) k) K
  | lconst n => exact pm_s_push (v := (1, ((n : Nat) : Int))) h (by have := n.isLt; exact ⟨by omega, by omega⟩) (fun H locs rls cells slots rest k => lv_lconst hx hb hd rfl k) K
  | ldc idx =>
    rcases hw with ⟨h1, h2, h3⟩ | ⟨h1, q, hq, h2, h3, h4⟩
    · have h' : pm_nx (pc + 2) ls ((x.1, x.2.2.1) :: st) σ = some (.inl g') := h
      rw [h1] at h'
      exact pm_s_push (v := (0, x.2.2.1)) h' h2 (fun H locs rls cells slots rest k => lv_ldc hx hb hown (hts _ h3) hd k) K
    · have h' : pm_nx (pc + 2) ls ((x.1, x.2.2.1) :: st) σ = some (.inl g') := h
      rw [h1, h4] at h'
      have hR := hEX.2.2.2.1 q hq
      rw [h2, h3] at hR
      exact pm_s_push (v := (2, ((2000 + q.2.2.2 : Nat) : Int))) h' trivial (fun H locs rls cells slots rest k => va_ldcS hx hb hown hR hd (by
        have ev : pm_val b ad (2, ((2000 + q.2.2.2 : Nat) : Int)) = .ref (ad (2000 + q.2.2.2)) := by
          show Value.ref (pm_ad b ad _) = _
          unfold pm_ad
          rw [if_neg (by omega)]
        rw [ev] at k
        exact k)) K
  | ldc_w idx => exact pm_s_push (v := (0, x.2.2.1)) h hw.1 (fun H locs rls cells slots rest k => lv_ldcw hx hb hown (hts _ hw.2) hd k) K
  | ldc2_w idx => exact pm_s_push (v := (1, x.2.2.1)) h hw.1 (fun H locs rls cells slots rest k => lv_ldc2 hx hb hown (hts _ hw.2) hd k) K
  | getstatic idx =>
    obtain ⟨q, hq, h1, h2, h3⟩ := hw
    intro H locs rls cells slots g1 g2 g3 g4 g5 g6 g7 g8
    have hZ := hEX.2.1 q hq
    rw [h1] at hZ
    exact va_gets hx hb hZ (pm_toS h0 g4 g5 g7 g3) hown (hts _ h3) (fun x hx => hx) hd (K _ (pm_nx_inv h) H locs rls cells slots g1 g2 g3 g4 g5 ⟨g6.1, ok_c h2 g6.2.1, g6.2.2⟩ g7 g8)
  | iload_n k => obtain ⟨z, h1, h2⟩ := pm_ldi_inv h; exact pm_s_load h1 (Nat.zero_le _) h2 (fun H locs rls cells slots rest hl kk => lv_iload_n hx hb hd rfl hl kk) K
  | iload i => obtain ⟨z, h1, h2⟩ := pm_ldi_inv h; exact pm_s_load h1 (Nat.zero_le _) h2 (fun H locs rls cells slots rest hl kk => lv_iload hx hb hd hl kk) K
  | lload_n k => obtain ⟨z, h1, h2⟩ := pm_ldl_inv h; exact pm_s_load h1 (by show 1 ≤ 2; omega) h2 (fun H locs rls cells slots rest hl kk => lv_lload_n hx hb hd rfl hl kk) K
  | lload i => obtain ⟨z, h1, h2⟩ := pm_ldl_inv h; exact pm_s_load h1 (by show 1 ≤ 2; omega) h2 (fun H locs rls cells slots rest hl kk => lv_lload hx hb hd hl kk) K
  | aload_n k => obtain ⟨z, h1, h2⟩ := pm_lda_inv h; exact pm_s_load h1 (by show 2 ≤ 2; omega) h2 (fun H locs rls cells slots rest hl kk => lv_aload_n hx hb hd rfl hl kk) K
  | aload i => obtain ⟨z, h1, h2⟩ := pm_lda_inv h; exact pm_s_load h1 (by show 2 ≤ 2; omega) h2 (fun H locs rls cells slots rest hl kk => lv_aload hx hb hd hl kk) K
  | istore_n k => obtain ⟨z, st', ls', h1, h2, h3⟩ := pm_sti_inv h; exact pm_s_store hn h1 h2 h3 (fun H locs rls cells slots rest lv hl hi kk => lv_istore_n hx hb hd rfl hl hi rfl kk) K
  | istore i => obtain ⟨z, st', ls', h1, h2, h3⟩ := pm_sti_inv h; exact pm_s_store hn h1 h2 h3 (fun H locs rls cells slots rest lv hl hi kk => lv_istore hx hb hd hl hi rfl kk) K
  | astore_n k => obtain ⟨z, st', ls', h1, h2, h3⟩ := pm_sta_inv h; exact pm_s_store hn h1 h2 h3 (fun H locs rls cells slots rest lv hl hi kk => lv_astore_n hx hb hd rfl hl hi rfl kk) K
  | astore i => obtain ⟨z, st', ls', h1, h2, h3⟩ := pm_sta_inv h; exact pm_s_store hn h1 h2 h3 (fun H locs rls cells slots rest lv hl hi kk => lv_astore hx hb hd hl hi rfl kk) K
  | lstore_n k => exact pm_s_stl hn h (fun H locs rls cells slots rest lv z hl hi kk => lv_lstore_n hx hb hd rfl hl hi rfl kk) K
  | lstore i => exact pm_s_stl hn h (fun H locs rls cells slots rest lv z hl hi kk => lv_lstore hx hb hd hl hi rfl kk) K
  | iinc i n => exact pm_s_inc hx hb hn hd h K
  | dup =>
    match st, h with
    | (t, v) :: r, h =>
      have h' : (if t = 0 ∨ t = 2 then pm_nx (pc + 1) ls ((t, v) :: (t, v) :: r) σ else none) = some (.inl g') := h
      split at h'
      · next ht => exact pm_stk (fun H locs rls cells slots _ k => lv_dup hx hb hd (pm_dup1 ht) k) (fun hok => ok_c (ok1 hok).1 hok) (K _ (pm_nx_inv h'))
      · cases h'
  | dup2 =>
    match st, h with
    | (t, v) :: (t', w) :: r, h =>
      have h' : (if (t = 0 ∨ t = 2) ∧ (t' = 0 ∨ t' = 2) then pm_nx (pc + 1) ls ((t, v) :: (t', w) :: (t, v) :: (t', w) :: r) σ else none) = some (.inl g') := h
      split at h'
      · next ht => exact pm_stk (fun H locs rls cells slots _ k => lv_dup2_11 hx hb hd (pm_dup1 ht.1) (pm_dup1 ht.2) k) (fun hok => ok_c (ok2 hok).1 (ok_c (ok2 hok).2.1 hok)) (K _ (pm_nx_inv h'))
      · cases h'
  | pop =>
    match st, h with
    | (t, v) :: r, h =>
      have h' : (if t = 0 ∨ t = 2 then pm_nx (pc + 1) ls r σ else none) = some (.inl g') := h
      split at h'
      · next ht => exact pm_stk (fun H locs rls cells slots _ k => lv_pop hx hb hd (pm_dup1 ht) k) (fun hok => (ok1 hok).2) (K _ (pm_nx_inv h'))
      · cases h'
  | pop2 =>
    match st, h with
    | (1, v) :: r, h => exact pm_stk (fun H locs rls cells slots _ k => lv_pop2_2 hx hb hd rfl k) (fun hok => (ok1 hok).2) (K _ (pm_nx_inv h))
  | iadd => exact pm_s_i2 h (fun _ _ _ _ => ok_w32 _) (fun H locs rls cells slots y z rest hy hz k => lv_iadd hx hb hd (by rw [i32_add]; exact k)) K
  | isub => exact pm_s_i2 h (fun _ _ _ _ => ok_w32 _) (fun H locs rls cells slots y z rest hy hz k => lv_isub hx hb hd (by rw [i32_sub]; exact k)) K
  | imul => exact pm_s_i2 h (fun _ _ _ _ => ok_w32 _) (fun H locs rls cells slots y z rest hy hz k => lv_imul hx hb hd (by rw [i32_mul]; exact k)) K
  | iand => exact pm_s_i2 h (fun _ _ _ _ => ok_i32 _) (fun H locs rls cells slots y z rest hy hz k => lv_iand hx hb hd (by unfold pm_and at k; rw [i32_rt] at k; exact k)) K
  | ior => exact pm_s_i2 h (fun _ _ _ _ => ok_i32 _) (fun H locs rls cells slots y z rest hy hz k => lv_ior hx hb hd (by unfold pm_or at k; rw [i32_rt] at k; exact k)) K
  | ixor => exact pm_s_i2 h (fun _ _ _ _ => ok_i32 _) (fun H locs rls cells slots y z rest hy hz k => lv_ixor hx hb hd (by unfold pm_xor at k; rw [i32_rt] at k; exact k)) K
  | ishl => exact pm_s_i2 h (fun _ _ _ _ => ok_i32 _) (fun H locs rls cells slots y z rest hy hz k => lv_ishl hx hb hd (by unfold pm_shl at k; rw [i32_rt] at k; exact k)) K
  | ishr => exact pm_s_i2 h (fun _ _ _ _ => ok_i32 _) (fun H locs rls cells slots y z rest hy hz k => lv_ishr hx hb hd (by unfold pm_shr at k; rw [i32_rt] at k; exact k)) K
  | iushr => exact pm_s_i2 h (fun _ _ _ _ => ok_i32 _) (fun H locs rls cells slots y z rest hy hz k => lv_iushr hx hb hd rfl (by unfold pm_ush at k; rw [i32_rt] at k; exact k)) K
  | idiv => exact pm_s_d2 h (fun _ _ _ _ => ok_w32 _) (fun H locs rls cells slots y z rest hy hz hz0 k => lv_idiv hx hb hd (fun q => hz0 ((i32_eq hz ⟨by decide, by decide⟩).mp q)) (by rw [i32_div hy hz]; exact k)) K
  | irem => exact pm_s_d2 h (fun y z hy hz => tmod_in hy) (fun H locs rls cells slots y z rest hy hz hz0 k => lv_irem hx hb hd (fun q => hz0 ((i32_eq hz ⟨by decide, by decide⟩).mp q)) (by rw [i32_rem hy hz]; exact k)) K
  | ineg => exact pm_s_u h (fun _ _ => ok_w32 _) (fun H locs rls cells slots y rest hy k => lv_ineg hx hb hd (by rw [i32_neg]; exact k)) K
  | i2l => exact pm_s_u h (fun y hy => by have h1 : -2147483648 ≤ y ∧ y < 2147483648 := hy; show -9223372036854775808 ≤ y ∧ y < 9223372036854775808; omega) (fun H locs rls cells slots y rest hy k => lv_i2l hx hb hd (i32_i2l hy) k) K
  | l2i => exact pm_s_u h (fun _ _ => ok_w32 _) (fun H locs rls cells slots y rest hy k => lv_l2i hx hb hd (i64_l2i hy) k) K
  | i2b => exact pm_s_u h (fun y _ => by show -2147483648 ≤ w8 y ∧ w8 y < 2147483648; unfold w8; omega) (fun H locs rls cells slots y rest hy k => lv_i2b hx hb hd (i32_i2b hy) k) K
  | i2s => exact pm_s_u h (fun y _ => by show -2147483648 ≤ w16 y ∧ w16 y < 2147483648; unfold w16; omega) (fun H locs rls cells slots y rest hy k => lv_i2s hx hb hd (i32_i2s hy) k) K
  | i2c => exact pm_s_u h (fun y _ => by show -2147483648 ≤ y % 65536 ∧ y % 65536 < 2147483648; omega) (fun H locs rls cells slots y rest hy k => lv_i2c hx hb hd (i32_i2c hy) k) K
  | ladd => exact pm_s_l2 h (fun _ _ _ _ => ok_w64 _) (fun H locs rls cells slots y z rest hy hz k => lv_ladd hx hb hd (by rw [i64_add]; exact k)) K
  | lsub => exact pm_s_l2 h (fun _ _ _ _ => ok_w64 _) (fun H locs rls cells slots y z rest hy hz k => lv_lsub hx hb hd (by rw [i64_sub]; exact k)) K
  | lmul => exact pm_s_l2 h (fun _ _ _ _ => ok_w64 _) (fun H locs rls cells slots y z rest hy hz k => lv_lmul hx hb hd (by rw [i64_mul]; exact k)) K
  | land => exact pm_s_l2 h (fun _ _ _ _ => ok_i64 _) (fun H locs rls cells slots y z rest hy hz k => lv_land hx hb hd (by unfold pm_lnd at k; rw [i64_rt] at k; exact k)) K
  | lor => exact pm_s_l2 h (fun _ _ _ _ => ok_i64 _) (fun H locs rls cells slots y z rest hy hz k => lv_lor hx hb hd (by unfold pm_lor at k; rw [i64_rt] at k; exact k)) K
  | lshl =>
    match st, h with
    | (0, y) :: (1, z) :: r, h =>
      refine pm_stk (fun H locs rls cells slots _ k => lv_lshl hx hb hd rfl ?_) (fun hok => ok_c (ok_i64 _) (ok2 hok).2.2) (K _ (pm_nx_inv h))
      have k' : W p l e R s m args below meth c H locs cells slots Q (F0 m (pc + 1) rls (.long (Int64.ofInt (pm_lsh z y)) :: r.map (pm_val b ad))) := k
      unfold pm_lsh at k'
      rw [i64_rt] at k'
      exact k'
  | lcmp =>
    match st, h with
    | (1, y) :: (1, z) :: r, h =>
      refine pm_stk (fun H locs rls cells slots hok k => W.lcmp hx hb hd ?_) (fun hok => ok_c ?_ (ok2 hok).2.2) (K _ (pm_nx_inv h))
      · have e1 : lg_cmp (Int64.ofInt z) (Int64.ofInt y) = Int32.ofInt (if y < z then 1 else if z = y then 0 else -1) := by
          have q1 := i64_ltz (ok2 hok).1 (ok2 hok).2.1
          have q2 := i64_eq (ok2 hok).2.1 (ok2 hok).1
          unfold lg_cmp
          by_cases c1 : y < z
          · rw [if_pos (q1.mpr c1), if_pos c1]; rfl
          · rw [if_neg (fun q => c1 (q1.mp q)), if_neg c1]
            by_cases c2 : z = y
            · rw [if_pos (q2.mpr c2), if_pos c2]; rfl
            · rw [if_neg (fun q => c2 (q2.mp q)), if_neg c2]; rfl
        have k' : W p l e R s m args below meth c H locs cells slots Q (F0 m (pc + 1) rls (.int (Int32.ofInt (if y < z then 1 else if z = y then 0 else -1)) :: r.map (pm_val b ad))) := k
        rw [← e1] at k'
        exact k'
      · show -2147483648 ≤ (if y < z then (1 : Int) else if z = y then 0 else -1) ∧ (if y < z then (1 : Int) else if z = y then 0 else -1) < 2147483648
        split
        · omega
        · split <;> omega
  | ifCond cnd off =>
    match st, h with
    | (0, z) :: r, h => exact pm_s_if hx hb hd hw (K _ (pm_nx_inv h))
  | if_icmp cnd off =>
    match st, h with
    | (0, y) :: (0, z) :: r, h => exact pm_s_icmp hx hb hd hw (K _ (pm_nx_inv h))
  | goto off =>
    have hto : (pc : Int) + off = ((pm_tg pc off : Nat) : Int) := by
      have h1 : 0 ≤ (pc : Int) + off := hw
      unfold pm_tg
      omega
    exact pm_stk (fun H locs rls cells slots _ k => lv_goto hx hb hd hto k) (fun hok => hok) (K _ (pm_nx_inv h))
  | tableswitch dflt lo hi offs =>
    match st, h with
    | (0, z) :: r, h =>
      have h' : (match pm_tsw dflt lo hi offs z with
        | some o => pm_nx (pm_tg pc o) ls r σ
        | none => none) = some (.inl g') := h
      split at h'
      · next o ho => exact pm_s_tsw hx hb hd ho (by
          rcases pm_tsw_mem ho with rfl | h9
          · exact hw.1
          · exact hw.2 o h9) (K _ (pm_nx_inv h'))
      · cases h'
  | lookupswitch dflt ps =>
    match st, h with
    | (0, z) :: r, h => exact pm_s_lsw hx hb hd hw.1 (by
        rcases pm_lsw_mem (dflt := dflt) (z := z) (l := ps.toList) with h9 | ⟨q, h8, h9⟩
        · rw [h9]; exact hw.2.1
        · rw [h9]; exact hw.2.2 q h8) (K _ (pm_nx_inv h))
  | getfield idx =>
    rcases hw with ⟨h1, h2⟩ | ⟨h1, r, h2, h3, h4⟩
    · have h' : (match x.1 with
        | 100 => pm_getS x.2.1 pc ls st σ
        | _ => pm_getf x.1 x.2.1 (fc x.1 x.2.1) pc ls st σ) = some (.inl g') := h
      rw [h1] at h'
      exact pm_s_getS hx hb hts hown h0 hEX h2 hd h' kk
    · have h' : (match x.1 with
        | 100 => pm_getS x.2.1 pc ls st σ
        | _ => pm_getf x.1 x.2.1 (fc x.1 x.2.1) pc ls st σ) = some (.inl g') := h
      split at h'
      · next hh => exact absurd hh h1
      · exact pm_s_getf hx hb hts hown hK hC h2 h3 h4 hd h' K
  | putfield idx =>
    obtain ⟨r, h1, h2, h3, h4⟩ := hw
    exact pm_s_putf hx hb hts hown hK hC h0 h1 h2 h3 (by rw [hnm]; exact h4) hd h K
  | iaload => exact pm_s_iald hx hb hK h0 hEX.1 hd h K
  | laload => exact pm_s_lald hx hb hK hEX.1 hd h K
  | baload => exact pm_s_bald hx hb hK h0 hEX.1 hd h K
  | aaload => exact pm_s_aald hx hb hK hd h K
  | iastore => exact pm_s_iast hx hb hK h0 hd h K
  | lastore => exact pm_s_last hx hb hK h0 hd h K
  | bastore => exact pm_s_bast hx hb hK h0 hd h K
  | arraylength => exact pm_s_alen hx hb hK h0 hEX.1 hd h K
  | newarray ty =>
    cases ty with
    | int => exact pm_s_newa (t := 0) (by omega) hx hb hts hK hw hd h RM K
    | long => exact pm_s_newa (t := 1) (by omega) hx hb hts hK hw hd h RM K
    | boolean => exact pm_s_newa (t := 2) (by omega) hx hb hts hK hw hd h RM K
    | _ => exact absurd h (by intro q; cases q)
  | new idx =>
    obtain ⟨r, h1, h2, h3, h4, h5⟩ := hw
    have h' : pm_newo x.1 x.2.1 (fun k => if fc x.1 k = 2 then -1 else 0) pc ls st σ = some (.inl g') := h
    rw [h2] at h'
    exact pm_s_newo hx hb hts hown hK hC h1 h3 h4 h5 hd h' RM K
  | multianewarray idx dims =>
    have h' : (if dims = 2 then pm_mna x.1 pc ls st σ else none) = some (.inl g') := h
    split at h'
    · next hdm =>
      subst hdm
      exact pm_s_mna hw.1 hx hb hts hown hK hEX hw.2.1 hw.2.2 hd h' RM K
    · cases h'
  | invokestatic idx =>
    have h' : (match x.2.2.1 with
      | 1 => pm_copy pc ls st σ
      | 2 => pm_m2 pm_max pc ls st σ
      | 3 => pm_m2 pm_min pc ls st σ
      | 4 => pm_m1 pm_abs pc ls st σ
      | _ => pm_callS (pm_E T X fc d) x.1 x.2.1 pc ls st σ) = some (.inl g') := h
    have m2 : ∀ {f : Int → Int → Int}, pm_m2 f pc ls st σ = some (.inl g') → (∀ x y, pm_ok (0, x) → pm_ok (0, y) → pm_ok (0, f x y)) →
        (∀ (H : Heap) (locs : List Loc) (rls : Array Slot) (cells slots : Nat) (x y : Int) (rest : List Value), c.maxLocals = rls.size → (rest.map fun v => v.category).sum ≤ 8 → cells ≤ R.cells → slots ≤ R.slots → pm_ok (0, x) → pm_ok (0, y) → W p l e R s m args below meth c H locs cells slots Q (F0 m (pc + 3) rls (.int (Int32.ofInt (f x y)) :: rest)) → W p l e R s m args below meth c H locs cells slots Q (F0 m pc rls (.int (Int32.ofInt y) :: .int (Int32.ofInt x) :: rest))) → pm_W p l e R s m args below meth c Q b ad ca fc D nL n0 s0 (pc, ls, st, σ) := by
      intro f hm hok row
      obtain ⟨y, z, r, rfl, hf, ge⟩ := pm_m2_inv hm
      intro H locs rls cells slots g1 g2 g3 g4 g5 g6 g7 g8
      have r1 := hroom.1
      have r2 := hroom.2
      cases ge
      have q7 : cells + n0 = σ.1.length := g7
      have q8 : slots + s0 = pm_sl σ.1 := g8
      have r1 : σ.1.length ≤ R.cells + n0 := r1
      have r2 : pm_sl σ.1 ≤ R.slots + s0 := r2
      exact row H locs rls cells slots y z _ (hml.trans g1.1.symm) (pm_fit_le b ad 4 r hf) (by omega) (by omega) (ok2 g6.2.1).2.1 (ok2 g6.2.1).1 (kk H locs rls cells slots g1 g2 g3 g4 g5 ⟨g6.1, ok_c (hok _ _ (ok2 g6.2.1).2.1 (ok2 g6.2.1).1) (ok2 g6.2.1).2.2, g6.2.2⟩ g7 g8)
    rcases hw with ⟨h1, h2, h3, h4, h5⟩ | ⟨h1, h2, h3, h4, h5⟩ | ⟨h1, h2, h3, h4, h5⟩ | ⟨h1, h2, h3, h4, h5⟩ | ⟨h1, M, h2, h3, h4, h5⟩
    · rw [h1] at h'
      exact pm_s_copy F0' h2 h3 h4 h5 hd h' kk
    · rw [h1] at h'
      refine m2 h' (fun y z hy hz => by unfold pm_max; split; exact hz; exact hy) (fun H locs rls cells slots y z rest q1 q2 q3 q4 hy hz k => va_mmax hx hb q1 hown (hts _ h2) (hts _ h3) (hts _ h4) (hts _ h5) (by omega) (by omega) q3 q4 hd ?_)
      have e1 : (if Int32.ofInt y < Int32.ofInt z then Int32.ofInt z else Int32.ofInt y) = Int32.ofInt (pm_max y z) := by
        unfold pm_max
        by_cases hc : y < z
        · rw [if_pos hc, if_pos ((i32_ltz hy hz).mpr hc)]
        · rw [if_neg hc, if_neg (fun q => hc ((i32_ltz hy hz).mp q))]
      rw [e1]
      exact k
    · rw [h1] at h'
      refine m2 h' (fun y z hy hz => by unfold pm_min; split; exact hz; exact hy) (fun H locs rls cells slots y z rest q1 q2 q3 q4 hy hz k => va_mmin hx hb q1 hown (hts _ h2) (hts _ h3) (hts _ h4) (hts _ h5) (by omega) (by omega) q3 q4 hd ?_)
      have e1 : (if Int32.ofInt z < Int32.ofInt y then Int32.ofInt z else Int32.ofInt y) = Int32.ofInt (pm_min y z) := by
        unfold pm_min
        by_cases hc : z < y
        · rw [if_pos hc, if_pos ((i32_ltz hz hy).mpr hc)]
        · rw [if_neg hc, if_neg (fun q => hc ((i32_ltz hz hy).mp q))]
      rw [e1]
      exact k
    · rw [h1] at h'
      obtain ⟨y, r, rfl, hf, ge⟩ := pm_m1_inv h'
      intro H locs rls cells slots g1 g2 g3 g4 g5 g6 g7 g8
      have r1 := hroom.1
      have r2 := hroom.2
      cases ge
      have q7 : cells + n0 = σ.1.length := g7
      have q8 : slots + s0 = pm_sl σ.1 := g8
      have r1 : σ.1.length ≤ R.cells + n0 := r1
      have r2 : pm_sl σ.1 ≤ R.slots + s0 := r2
      have hy := (ok1 g6.2.1).1
      have ho : pm_ok (0, pm_abs y) := by
        unfold pm_abs
        split
        · exact hy
        · exact ok_w32 _
      have e0 := pm_fit_le b ad 4 r hf
      refine va_mabs hx hb (hml.trans g1.1.symm) hown (hts _ h2) (hts _ h3) (hts _ h4) (hts _ h5) (by omega) (by omega) (by omega) (by omega) hd ?_
      have e1 : (if 0 ≤ Int32.ofInt y then Int32.ofInt y else 0 - Int32.ofInt y) = Int32.ofInt (pm_abs y) := by
        have z0 : (-2147483648 : Int) ≤ 0 ∧ (0 : Int) < 2147483648 := by decide
        have q5 : (0 : Int32) ≤ Int32.ofInt y ↔ 0 ≤ y := i32_lez z0 hy
        unfold pm_abs
        by_cases hc : 0 ≤ y
        · rw [if_pos hc, if_pos (q5.mpr hc)]
        · rw [if_neg hc, if_neg (fun q => hc (q5.mp q))]
          exact i32_sub 0 y
      rw [e1]
      exact kk H locs rls cells slots g1 g2 g3 g4 g5 ⟨g6.1, ok_c ho (ok1 g6.2.1).2, g6.2.2⟩ g7 g8
    · rw [h1] at h'
      exact pm_s_callS F0' h2 h3 h4 h5 hd h' hroom kk
  | invokevirtual idx =>
    obtain ⟨M, h1, h2, h3, h4, h5, h6⟩ := hw
    exact pm_s_callV F0' h1 h2 h3 h4 h5 (by
      rcases h6 with ⟨h7, h8⟩ | h7
      · exact Or.inl ⟨by rw [h7]; rfl, h8⟩
      · exact Or.inr h7) hd h hroom kk
  | invokespecial idx =>
    have h' : (match x.2.2.1 with
      | 1 => pm_obj pc ls st σ
      | _ => pm_callI (pm_E T X fc d) x.1 x.2.1 pc ls st σ) = some (.inl g') := h
    rcases hw with ⟨h1, h2, h3, h4⟩ | ⟨h1, M, h2, h3, h4, h5, h6, h7⟩
    · rw [h1] at h'
      obtain ⟨a, r, rfl, hf, ge⟩ := pm_obj_inv h'
      cases ge
      intro H locs rls cells slots g1 g2 g3 g4 g5 g6 g7 g8
      exact W.objInit hx hb hown (hts _ h2) (hts _ h3) (hts _ h4) rfl (g1.1.trans hml.symm) rfl hd (by omega) (Nat.le_trans (Nat.add_le_add_right (pm_room (b := b) (ad := ad) hf) 12) (by omega)) (kk H locs rls cells slots g1 g2 g3 g4 g5 ⟨g6.1, (ok1 g6.2.1).2, g6.2.2⟩ g7 g8)
    · rw [h1] at h'
      exact pm_s_callI F0' h2 h3 h4 h5 h6 h7 hd h' hroom kk
  | ireturn =>
    have h' : pm_ret 0 x.1 st σ = some (.inl g') := h
    unfold pm_ret at h'
    split at h'
    · split at h' <;> cases h'
    · cases h'
  | lreturn =>
    have h' : pm_ret 1 0 st σ = some (.inl g') := h
    unfold pm_ret at h'
    split at h'
    · split at h' <;> cases h'
    · cases h'
  | areturn =>
    have h' : pm_ret 2 0 st σ = some (.inl g') := h
    unfold pm_ret at h'
    split at h'
    · split at h' <;> cases h'
    · cases h'
  | return_ =>
    match st, h with
    | [], h => cases h
  | _ => exact absurd h (by intro q; cases q)
/-- a table of instructions, and what stands behind each -/
def pm_okC (T : List pm_M) (own nm : String) (ret : Option FieldType) (cc : ByteArray) (C : pm_C) : Prop := ∀ pc ins x, pm_fetch C pc = some (ins, x) → decode cc pc = .ok (ins, pm_len ins x) ∧ pm_wd T own nm ret pc ins x
theorem pm_put_len {l l' : List pm_V} {i : Nat} {v : pm_V} (h : pm_put l i v = some l') : l'.length = l.length := by
  obtain ⟨-, -, rfl⟩ := pm_put_inv h
  rw [pm_set_eq, List.length_set]
theorem pm_exec_len {orc : pm_O} {ins : Instr} {g' : pm_F} (h : pm_exec orc X fc ins x pc ls st σ = some (.inl g')) : g'.2.1.length = ls.length := by
  have ex : ∀ {g : pm_F ⊕ pm_R}, pm_exec orc X fc ins x pc ls st σ = some g → (∀ g', g = .inl g' → g'.2.1.length = ls.length) := by
    intro g h
    have nx : ∀ {pc' : Nat} {st' : List pm_V} {σ' : pm_S}, pm_nx pc' ls st' σ' = some g → (∀ g', g = .inl g' → g'.2.1.length = ls.length) := fun h g' hg => by rw [pm_nx_inv h] at hg; cases hg; rfl
    have inl : ∀ {pc' : Nat} {st' : List pm_V} {σ' : pm_S}, g = .inl (pc', ls, st', σ') → (∀ g', g = .inl g' → g'.2.1.length = ls.length) := fun h g' hg => by rw [h] at hg; cases hg; rfl
    have pu : ∀ {pc' i : Nat} {v : pm_V} {ls' st' : List pm_V} {σ' : pm_S}, pm_put ls i v = some ls' → g = .inl (pc', ls', st', σ') → (∀ g', g = .inl g' → g'.2.1.length = ls.length) := fun hp h g' hg => by rw [h] at hg; cases hg; exact pm_put_len hp
    have pu2 : ∀ {pc' i j : Nat} {v w : pm_V} {st' : List pm_V} {σ' : pm_S}, g = .inl (pc', pm_set (pm_set ls i v) j w, st', σ') → (∀ g', g = .inl g' → g'.2.1.length = ls.length) := fun h g' hg => by rw [h] at hg; cases hg; show (pm_set (pm_set ls _ _) _ _).length = _; rw [pm_set_eq, pm_set_eq, List.length_set, List.length_set]
    have ca : ∀ {y : Nat} {as rest : List pm_V}, pm_call orc y as rest pc ls σ = some g → (∀ g', g = .inl g' → g'.2.1.length = ls.length) := fun h => by obtain ⟨rv, σ', _, _, h2⟩ := pm_call_inv h; exact inl h2
    have ret : ∀ {t a : Nat}, pm_ret t a st σ = some g → (∀ g', g = .inl g' → g'.2.1.length = ls.length) := fun h g' hg => by
      unfold pm_ret at h
      split at h
      · split at h
        · cases h; cases hg
        · cases h
      · cases h
    unfold pm_exec at h
    split at h
    all_goals first
      | exact nx h
      | exact (let ⟨_, _, h2⟩ := pm_ldi_inv h; inl h2)
      | exact (let ⟨_, _, h2⟩ := pm_ldl_inv h; inl h2)
      | exact (let ⟨_, _, h2⟩ := pm_lda_inv h; inl h2)
      | exact (let ⟨_, _, _, h1, _, h2⟩ := pm_sti_inv h; pu h1 h2)
      | exact (let ⟨_, _, _, h1, _, h2⟩ := pm_sta_inv h; pu h1 h2)
      | exact (let ⟨_, _, _, _, _, h2⟩ := pm_stl_inv h; pu2 h2)
      | exact (let ⟨_, _, _, h1, h2⟩ := pm_inc_inv h; pu h1 h2)
      | exact (let ⟨_, _, _, _, h2⟩ := pm_i2_inv h; inl h2)
      | exact (let ⟨_, _, _, _, _, h2⟩ := pm_d2_inv h; inl h2)
      | exact (let ⟨_, _, _, _, h2⟩ := pm_l2_inv h; inl h2)
      | exact (let ⟨_, _, _, h2⟩ := pm_u_inv h; inl h2)
      | exact (let ⟨_, _, _, _, _, _, _, _, _, h2⟩ := pm_aload_inv h; inl h2)
      | exact (let ⟨_, _, _, _, _, _, _, _, _, h2⟩ := pm_baload_inv h; inl h2)
      | exact (let ⟨_, _, _, _, _, _, _, _, _, _, h2⟩ := pm_aald_inv h; inl h2)
      | exact (let ⟨_, _, _, _, _, _, _, _, _, _, h2⟩ := pm_astore_inv h; inl h2)
      | exact (let ⟨_, _, _, _, _, _, _, h2⟩ := pm_alen_inv h; inl h2)
      | exact (let ⟨_, _, _, _, _, _, _, _, h2⟩ := pm_putf_inv h; inl h2)
      | exact (let ⟨_, h2⟩ := pm_newo_inv h; inl h2)
      | exact ret h
      | skip
    all_goals first
      | (split at h <;> first
          | (split at h <;> first | exact nx h | cases h)
          | exact nx h
          | exact (let ⟨_, _, _, _, _, _, h2⟩ := pm_newa_inv h; inl h2)
          | (cases h; intro g' hg; cases hg)
          | skip)
      | skip
    all_goals first
      | exact (let ⟨_, _, _, _, _, _, h2⟩ := pm_getf_inv h; inl h2)
      | exact (let ⟨_, _, _, _, _, _, _, h2⟩ := pm_getS_inv h; inl h2)
      | exact (let ⟨_, _, _, _, _, _, _, _, _, h2⟩ := pm_mna_inv h; inl h2)
      | exact (let ⟨_, _, _, _, _, _, _, _, _, _, _, _, _, _, _, _, _, _, _, h2⟩ := pm_copy_inv h; inl h2)
      | exact (let ⟨_, _, _, h2⟩ := pm_callS_inv h; ca h2)
      | exact (let ⟨_, _, _, _, h2⟩ := pm_callV_inv h; ca h2)
      | exact (let ⟨_, _, _, _, h2⟩ := pm_callI_inv h; ca h2)
      | exact (let ⟨_, _, _, _, h2⟩ := pm_obj_inv h; inl h2)
      | exact (let ⟨_, _, _, _, _, h2⟩ := pm_m2_inv h; inl h2)
      | exact (let ⟨_, _, _, _, h2⟩ := pm_m1_inv h; inl h2)
      | cases h
  exact ex h g' rfl
/-- a run: from any of its configurations, if its end is good -/
theorem pm_s_run {C : pm_C} {rv : Option pm_V} {σf : pm_S} (F : pm_Fx p l R s m args meth c b ad ca fc D nL n0 X T d cc own nm) (hC : pm_okC T own nm ret cc C) (hr1 : σf.1.length ≤ R.cells + n0) (hr2 : pm_sl σf.1 ≤ R.slots + s0)
    (hend : ∀ g : pm_F, pm_step (pm_E T X fc d) X fc C g = some (.inr (rv, σf)) → pm_W p l e R s m args below meth c Q b ad ca fc D nL n0 s0 g) : ∀ (n : Nat) (g : pm_F), g.2.1.length ≤ nL → pm_run (pm_E T X fc d) X fc C n g = some (rv, σf) → pm_W p l e R s m args below meth c Q b ad ca fc D nL n0 s0 g
  | 0, g, _, h => by cases h
  | n + 1, g, hn, h => by
    rw [pm_run] at h
    cases hs : pm_step (pm_E T X fc d) X fc C g with
    | none => rw [hs] at h; cases h
    | some q =>
      rw [hs] at h
      cases q with
      | inl g' =>
        have hs' := hs
        unfold pm_step at hs'
        split at hs'
        · next ins x' hf =>
          obtain ⟨h1, h2⟩ := hC _ _ _ hf
          have hgr := pm_run_gr (pm_E_gr (T := T) (X := X) (fc := fc) d) h
          exact pm_s_step (ls := g.2.1) (st := g.2.2.1) (σ := g.2.2.2) F hn h1 h2 hs' ⟨Nat.le_trans hgr.1 hr1, Nat.le_trans hgr.2 hr2⟩ (pm_s_run F hC hr1 hr2 hend n g' (by rw [pm_exec_len hs']; exact hn) h)
        · cases hs'
      | inr r =>
        cases h
        exact hend g hs
theorem pm_step_inv {orc : pm_O} {C : pm_C} {g : pm_F} {q : pm_F ⊕ pm_R} (h : pm_step orc X fc C g = some q) : ∃ ins x, pm_fetch C g.1 = some (ins, x) ∧ pm_exec orc X fc ins x g.1 g.2.1 g.2.2.1 g.2.2.2 = some q := by
  unfold pm_step at h
  split at h
  · next ins x hf => exact ⟨ins, x, hf, h⟩
  · cases h
def pm_isret : Instr → Bool
  | .ireturn => true
  | .lreturn => true
  | .areturn => true
  | .return_ => true
  | _ => false
theorem pm_exec_nr {orc : pm_O} {ins : Instr} {g : pm_F ⊕ pm_R} (h : pm_exec orc X fc ins x pc ls st σ = some g) (hr : pm_isret ins = false) : ∃ g', g = .inl g' := by
  have inl : ∀ {g' : pm_F}, g = .inl g' → (∃ g', g = .inl g') := fun h => ⟨_, h⟩
  have nx : ∀ {pc' : Nat} {ls' st' : List pm_V} {σ' : pm_S}, pm_nx pc' ls' st' σ' = some g → (∃ g', g = .inl g') := fun h => ⟨_, pm_nx_inv h⟩
  have ca : ∀ {y : Nat} {as rest : List pm_V}, pm_call orc y as rest pc ls σ = some g → (∃ g', g = .inl g') := fun h => by obtain ⟨rv, σ', _, _, h2⟩ := pm_call_inv h; exact ⟨_, h2⟩
  unfold pm_exec at h
  split at h
  all_goals first
    | exact nx h
    | exact Bool.noConfusion hr
    | exact (let ⟨_, _, h2⟩ := pm_ldi_inv h; inl h2)
    | exact (let ⟨_, _, h2⟩ := pm_ldl_inv h; inl h2)
    | exact (let ⟨_, _, h2⟩ := pm_lda_inv h; inl h2)
    | exact (let ⟨_, _, _, h1, _, h2⟩ := pm_sti_inv h; inl h2)
    | exact (let ⟨_, _, _, h1, _, h2⟩ := pm_sta_inv h; inl h2)
    | exact (let ⟨_, _, _, _, _, h2⟩ := pm_stl_inv h; inl h2)
    | exact (let ⟨_, _, _, h1, h2⟩ := pm_inc_inv h; inl h2)
    | exact (let ⟨_, _, _, _, h2⟩ := pm_i2_inv h; inl h2)
    | exact (let ⟨_, _, _, _, _, h2⟩ := pm_d2_inv h; inl h2)
    | exact (let ⟨_, _, _, _, h2⟩ := pm_l2_inv h; inl h2)
    | exact (let ⟨_, _, _, h2⟩ := pm_u_inv h; inl h2)
    | exact (let ⟨_, _, _, _, _, _, _, _, _, h2⟩ := pm_aload_inv h; inl h2)
    | exact (let ⟨_, _, _, _, _, _, _, _, _, h2⟩ := pm_baload_inv h; inl h2)
    | exact (let ⟨_, _, _, _, _, _, _, _, _, _, h2⟩ := pm_aald_inv h; inl h2)
    | exact (let ⟨_, _, _, _, _, _, _, _, _, _, h2⟩ := pm_astore_inv h; inl h2)
    | exact (let ⟨_, _, _, _, _, _, _, h2⟩ := pm_alen_inv h; inl h2)
    | exact (let ⟨_, _, _, _, _, _, _, _, h2⟩ := pm_putf_inv h; inl h2)
    | exact (let ⟨_, h2⟩ := pm_newo_inv h; inl h2)
    | skip
  all_goals first
    | (split at h <;> first
        | (split at h <;> first | exact nx h | cases h)
        | exact nx h
        | exact (let ⟨_, _, _, _, _, _, h2⟩ := pm_newa_inv h; inl h2)
        | skip)
    | skip
  all_goals first
    | exact (let ⟨_, _, _, _, _, _, h2⟩ := pm_getf_inv h; inl h2)
    | exact (let ⟨_, _, _, _, _, _, _, h2⟩ := pm_getS_inv h; inl h2)
    | exact (let ⟨_, _, _, _, _, _, _, _, _, h2⟩ := pm_mna_inv h; inl h2)
    | exact (let ⟨_, _, _, _, _, _, _, _, _, _, _, _, _, _, _, _, _, _, _, h2⟩ := pm_copy_inv h; inl h2)
    | exact (let ⟨_, _, _, h2⟩ := pm_callS_inv h; ca h2)
    | exact (let ⟨_, _, _, _, h2⟩ := pm_callV_inv h; ca h2)
    | exact (let ⟨_, _, _, _, h2⟩ := pm_callI_inv h; ca h2)
    | exact (let ⟨_, _, _, _, h2⟩ := pm_obj_inv h; inl h2)
    | exact (let ⟨_, _, _, _, _, h2⟩ := pm_m2_inv h; inl h2)
    | exact (let ⟨_, _, _, _, h2⟩ := pm_m1_inv h; inl h2)
    | cases h
/-- the end of a method that is called -/
theorem pm_s_ret {C : pm_C} {rv : Option pm_V} {σf : pm_S} {g : pm_F} (hx : p.tables.exec = Jvm.exec) (hb : c.code = cc) (hret : meth.sig.returnType = ret) (hlocks : meth.locks = false) (hC : pm_okC T own nm ret cc C) (hs : pm_step (pm_E T X fc d) X fc C g = some (.inr (rv, σf))) (hsl : s0 ≤ pm_sl σf.1) :
    pm_W p l e R s m args below meth c (MQ below (pm_Qc b ad ca fc D rv σf) args s (σf.1.length - n0) (pm_sl σf.1 - s0) (fun q => b ≤ q)) b ad ca fc D nL n0 s0 g := by
  obtain ⟨ins, x, hf, hs⟩ := pm_step_inv hs
  obtain ⟨hd, hw⟩ := hC _ _ _ hf
  have hg : g.2.2.2 = σf := by
    have := pm_exec_gr (pm_E_gr (T := T) (X := X) (fc := fc) d) hs
    exact this.symm
  intro H locs rls cells slots h1 h2 h3 h4 h5 h6 h7 h8
  have hc1 : cells = σf.1.length - n0 := by rw [hg] at h7; omega
  have hc2 : slots = pm_sl σf.1 - s0 := by rw [hg] at h8; omega
  rw [hg] at h2
  have hmok : pm_mok fc σf := by rw [← hg]; exact h6.2.2
  have q : ∀ (v : Option Value), v = rv.map (pm_val b ad) → (∀ w, rv = some w → pm_ok w) → ∀ t : State, t.heap = H → s.WarmedH t.vm → pm_Qc b ad ca fc D rv σf args s (.returned v) t := fun v hv ho t ht _ => ⟨by rw [hv], by rw [ht]; exact h2, fun q hq => by rw [ht]; exact h4 q hq, ho, hmok⟩
  rw [← hc1, ← hc2]
  have iret : ∀ {t a : Nat}, pm_ret t a g.2.2.1 g.2.2.2 = some (.inr (rv, σf)) → ∃ z, g.2.2.1 = [(t, z)] ∧ rv = some (t, z) ∧ (a = 1 → z = 0 ∨ z = 1) ∧ (a = 2 → -128 ≤ z ∧ z ≤ 127) ∧ (t = 2 → 0 ≤ z) := fun h => by
    unfold pm_ret at h
    split at h
    · next t0 z hst =>
      split at h
      · next hc =>
        cases h
        obtain ⟨rfl, hc⟩ := hc
        exact ⟨z, hst, rfl, hc⟩
      · cases h
    · cases h
  have okv : ∀ {w : pm_V}, g.2.2.1 = [w] → rv = some w → ∀ w', rv = some w' → pm_ok w' := fun hst hrv w' hw' => by
    rw [hrv] at hw'
    cases hw'
    exact h6.2.1 _ (by rw [hst]; simp)
  cases ins with
  | ireturn =>
    obtain ⟨z, z1, z2, z3, z4, -⟩ := iret (t := 0) (a := x.1) hs
    rw [z1]
    have hq := q (some (.int (Int32.ofInt z))) (by rw [z2]; rfl) (okv z1 z2)
    rcases hw with ⟨a1, a2⟩ | ⟨a1, a2⟩ | ⟨a1, a2⟩
    · exact W.iret hx hb (hret.trans a2) hq h5 hd hlocks
    · refine W.zret hx hb (hret.trans a2) ?_ hq h5 hd hlocks
      rcases z3 a1 with rfl | rfl <;> rfl
    · refine W.zret hx hb (hret.trans a2) ?_ hq h5 hd hlocks
      obtain ⟨b1, b2⟩ := z4 a1
      show Value.int ((Int32.ofInt z).toInt8.toInt32) = _
      rw [i32_i2b ⟨by omega, by omega⟩]
      congr 2
      unfold w8
      omega
  | lreturn =>
    obtain ⟨z, z1, z2, -⟩ := iret (t := 1) (a := 0) hs
    rw [z1]
    exact W.lret hx hb (hret.trans hw) (q (some (.long (Int64.ofInt z))) (by rw [z2]; rfl) (okv z1 z2)) h5 hd hlocks
  | areturn =>
    obtain ⟨z, z1, z2, -, -, z5⟩ := iret (t := 2) (a := 0) hs
    obtain ⟨n, hn⟩ := hw
    rw [z1]
    have z6 : 0 ≤ z := z5 rfl
    obtain ⟨k, rfl⟩ := Int.eq_ofNat_of_zero_le z6
    exact W.aret (rt := .object n) hx hb (hret.trans hn) (Or.inl ⟨n, rfl⟩) (Or.inr ⟨_, rfl⟩) (q (some (.ref (pm_ad b ad k))) (by rw [z2]; rfl) (okv z1 z2)) h5 hd hlocks
  | return_ =>
    have hs' : (match g.2.2.1 with
      | [] => some (.inr (none, g.2.2.2))
      | _ => none) = some (Sum.inr (rv, σf) : pm_F ⊕ pm_R) := hs
    split at hs'
    · next hst =>
      have hrv : rv = none := by cases hs'; rfl
      rw [hst]
      exact W.vret hx hb (hret.trans hw) (q none (by rw [hrv]; rfl) (fun w hw' => by rw [hrv] at hw'; cases hw')) h5 hd hlocks
    · cases hs'
  | _ => exact absurd (pm_exec_nr hs rfl) (by rintro ⟨g', hg'⟩; cases hg')
/-- every method of a table that stands: its answers are the machine's, at every depth -/
def pm_okT (T : List pm_M) : Prop := ∀ y M, pm_get T y = some M → pm_okC T M.1.cls M.1.name M.2.2.2.1 M.2.1 M.2.2.2.2
theorem pm_pad_len : ∀ (n : Nat) (l : List pm_V), (pm_pad n l).length = n
  | 0, _ => rfl
  | n + 1, [] => by simp [pm_pad, pm_pad_len n]
  | n + 1, _ :: l => by simp [pm_pad, pm_pad_len n]
theorem pm_lv_pad {vs : List pm_V} {n : Nat} (h : (pm_spr vs).length ≤ n) : lv_has ((lg_sl (vs.map (pm_val b ad)) ++ List.replicate (n - (lg_sl (vs.map (pm_val b ad))).length) Slot.unset).toArray) n (pm_lv b ad 0 (pm_pad n (pm_spr vs))) := by
  refine lv_more (lv_entry (vs.map (pm_val b ad)) (n := n) (by rw [pm_spr_len]; exact h)) (fun q hq => ?_)
  obtain ⟨j, v, h1, h2, rfl⟩ := (pm_lv_mem b ad 0 _ q).mp hq
  exact pm_spr_args b ad vs 0 j v (pm_get_pad n _ j v h1 h2) h2
theorem pm_ok_pad {vs : List pm_V} (h : ∀ v ∈ vs, pm_ok v) : ∀ (n : Nat), ∀ v ∈ pm_pad n (pm_spr vs), pm_ok v := by
  have h1 : ∀ v ∈ pm_spr vs, pm_ok v := by
    induction vs with
    | nil => intro v hv; cases hv
    | cons w vs ih =>
      obtain ⟨t, z⟩ := w
      by_cases ht : t = 1
      · subst ht
        intro v hv
        rcases List.mem_cons.mp hv with rfl | hv
        · exact h _ (by simp)
        rcases List.mem_cons.mp hv with rfl | hv
        · exact trivial
        · exact ih (fun v hv => h v (by simp [hv])) v hv
      · rw [pm_spr_ne t z vs ht]
        exact ok_c (h _ (by simp)) (ih (fun v hv => h v (by simp [hv])))
  generalize pm_spr vs = us at h1
  intro n
  induction n generalizing us with
  | zero => intro v hv; cases hv
  | succ n ih =>
    cases us with
    | nil => exact ok_c trivial (ih [] h1)
    | cons u us => exact ok_c (h1 u (by simp)) (ih us (fun v hv => h1 v (by simp [hv])))
theorem pm_sound (hl : ∀ y M, pm_get T y = some M → M.1.cls ≠ "") (hCL : pm_CL fc) (hT : pm_okT T) : ∀ d, pm_Snd l b ad ca fc D X T d
  | 0 => fun y n M as σ rv σ' _ _ h => by cases h
  | d + 1 => by
    intro y n M as σ rv σ' hM hg hE hok hmok
    have hE' := hE
    unfold pm_E at hE'
    rw [hM] at hE'
    simp only at hE'
    split at hE'
    · next hle =>
      obtain ⟨N, hN⟩ := pm_go_iff.mp hE'
      have hgr := pm_E_gr (d + 1) _ _ _ _ _ hE
      have hln : (pm_spr as).length ≤ M.2.2.1 := Nat.le_of_ble_eq_true hle
      refine Met.ofW (cc := M.2.1) (maxL := M.2.2.1) (ret := M.2.2.2.1) hg.1 rfl ?_
      intro p e s m args below meth c s₁ B hml hv
      obtain ⟨rfl, hsz, hP, hK, hEX⟩ := hv
      have hx := B.exec
      have hb := B.bytes
      have hts0 := atoms_spec (ws := Cond.code M.1 M.2.1 M.2.2.1 M.2.2.2.1 :: pm_U) B.pre
      have hts : ∀ w ∈ pm_U, w.before _ s = true := fun w hw => hts0 w (List.mem_cons_of_mem _ hw)
      have hown : s.vm.findClass M.1.cls = some m.cls := findClass_of_methodNamed B.named
      have hin : meth.name = M.1.name := (name_of_methodNamed B.named B.method).1
      have F : pm_Fx p l (pm_rm (d + 1) (σ'.1.length - σ.1.length) (pm_sl σ'.1 - pm_sl σ.1)) s m (as.map (pm_val b ad)).toArray meth c b ad ca fc D M.2.2.1 σ.1.length X T d M.2.1 M.1.cls M.1.name :=
        ⟨hx, hb, hml, hown, hts, hK, hEX, hCL, hsz, hin, Nat.le_refl _, by show 64 * d + 64 ≤ 64 * (d + 1); omega, pm_sound hl hCL hT d⟩
      have g1 := hgr.1
      have g2 := hgr.2
      have run := pm_s_run (p := p) (e := e) (below := below) (Q := MQ below (pm_Qc b ad ca fc D rv σ') (as.map (pm_val b ad)).toArray s (σ'.1.length - σ.1.length) (pm_sl σ'.1 - pm_sl σ.1) (fun q => b ≤ q)) (s0 := pm_sl σ.1) F (hT y M hM) (by show σ'.1.length ≤ σ'.1.length - σ.1.length + σ.1.length; omega) (by show pm_sl σ'.1 ≤ pm_sl σ'.1 - pm_sl σ.1 + pm_sl σ.1; omega)
        (fun g hg => pm_s_ret hx hb B.returns B.notSynchronized (hT y M hM) hg g2) N (0, pm_pad M.2.2.1 (pm_spr as), [], σ) (by show (pm_pad _ _).length ≤ _; rw [pm_pad_len]; exact Nat.le_refl _) hN
      rw [lg_entry_eq]
      exact run s.heap [] _ 0 0 (pm_lv_pad hln) hP hsz (fun q _ => rfl) (fun q hq => by cases hq) ⟨pm_ok_pad hok _, ⟨fun v hv => (by cases hv), hmok⟩⟩ (by show 0 + σ.1.length = σ.1.length; omega) (by show 0 + pm_sl σ.1 = pm_sl σ.1; omega)
    · cases hE'
end PMT
end
