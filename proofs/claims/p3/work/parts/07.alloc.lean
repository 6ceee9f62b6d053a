/-! NEW CELLS, COPIES, STATICS, TEXTS -/
def pm_arrs : List (Nat × List Int) := [(0, [-1, 0, 0, 2, 1, 3, 0, 4]), (0, [1, 10, 11, 2, 20, 0, 0, 0, 0, 30, 0, 0, 0, 41, 40, 0, 0, 0, 50, 0, 0, 0, 0, 60, 70, 0, 0, 0, 0, 80, 0, 81]), (0, [4, 50, -1, 1, 1, 1, 1, 2, 12, 3, 1, 3, 0, 0, 0]), (0, [9, 99, 5, 1, 9, 1, 9, 99, 30, 30, 9, 99]), (0, [1, 0, -1, 0, 1, 0, 1, 0, 2, 1, 0, 0])]
def pm_txts : List (List Int) := [[116, 119, 111, 115, 121, 100], [40, 33, 45], [41], [124], [38], [60, 61, 62], [43, 45], [42, 47, 37], [63], [59]]
def pm_lof (l : List Int) (k : Nat) : Int := match pm_get l k with
  | some z => z
  | none => 0
/-- the arrays that are not ours: 0 .. 4 the statics, 5 the script, 10 .. 19 the texts' bytes -/
def pm_X0 (L : Nat) (xs : Nat → Int) : pm_X := fun j => if j = 5 then some (0, L, xs) else if j < 5 then (pm_get pm_arrs j).map (fun q => (q.1, q.2.length, pm_lof q.2)) else if j < 10 then none else (pm_get pm_txts (j - 10)).map (fun q => (3, q.length, pm_lof q))
def pm_stats : List (String × String × String × pm_V) := [("OneWall$Bodies", "ABOVE", "[I", (2, 1000)), ("OneWall$Bodies", "OWN", "[I", (2, 1001)), ("OneWall$Wall", "AT_FIRST", "[I", (2, 1002)), ("OneWall$Wall", "GREATEST", "[I", (2, 1003)), ("OneWall$Wall", "LEAST", "[I", (2, 1004)), ("java/lang/String", "COMPACT_STRINGS", "Z", (0, 1))]
def pm_strs : List (String × Nat × String × Nat) := [("OneWall$Law", 19, "twosyd", 0), ("OneWall$Law", 106, "(!-", 1), ("OneWall$Law", 108, ")", 2), ("OneWall$Law", 74, "|", 3), ("OneWall$Law", 76, "&", 4), ("OneWall$Law", 78, "<=>", 5), ("OneWall$Law", 80, "+-", 6), ("OneWall$Law", 82, "*/%", 7), ("OneWall$Law", 68, "?", 8), ("OneWall$Law", 49, ";", 9)]
def pm_nst : List (String × Nat × MethodName × String) := [("OneWall", 18, ⟨"OneWall$Changes", "<init>", "()V"⟩, "OneWall"), ("OneWall", 25, ⟨"OneWall$Law", "<init>", "()V"⟩, "OneWall"), ("OneWall", 32, ⟨"OneWall$Ways", "<init>", "()V"⟩, "OneWall"), ("OneWall", 39, ⟨"OneWall$Frost", "<init>", "()V"⟩, "OneWall"), ("OneWall", 46, ⟨"OneWall$Debts", "<init>", "()V"⟩, "OneWall"), ("OneWall", 56, ⟨"OneWall$Deeds", "<init>", "()V"⟩, "OneWall"), ("OneWall", 66, ⟨"OneWall$Bodies", "<init>", "()V"⟩, "OneWall")]
/-- what lies outside and stays: arrays, statics, texts, and the words that a call doesn't carry on by itself -/
def pm_EX (b : Nat) (ad : Nat → Nat) (X : pm_X) (U : State) (H : Heap) : Prop := pm_XT b ad X U H ∧
  (∀ q ∈ pm_stats, va_Z q.1 q.2.1 q.2.2.1 (pm_val b ad q.2.2.2) (fun q => b ≤ q) U H) ∧
  (∀ i, i < 10 → va_O "java/lang/String" (ad (2000 + i)) (fun q => b ≤ q) U H ∧ va_OF "java/lang/String" "coder" "B" (.int 0) (ad (2000 + i)) (fun q => b ≤ q) U H ∧ va_OF "java/lang/String" "value" "[B" (.ref (ad (1010 + i))) (ad (2000 + i)) (fun q => b ≤ q) U H) ∧
  (∀ q ∈ pm_strs, vk_R q.1 q.2.1 q.2.2.1 (ad (2000 + q.2.2.2)) U) ∧ (∀ q ∈ pm_nst, va_Nw (.methodLinkNest q.1 q.2.1 q.2.2.1 q.2.2.2) U) ∧
  (∀ A, (Cond.arrayOver (.array .int)).before A U = true) ∧ ∀ A, (Cond.arrayOver (.array .long)).before A U = true
theorem pm_AO {u U : State} {t : FieldType} (hvm : u.vm.Alike U.vm) (h : ∀ A, (Cond.arrayOver (.array t)).before A u = true) : ∀ A, (Cond.arrayOver (.array t)).before A U = true := fun A => arrayOver_alikeB hvm (h A)
theorem pm_EX.go {b : Nat} {ad : Nat → Nat} {X : pm_X} {s U : State} {H : Heap} (h : pm_EX b ad X s s.heap) (hW : s.WarmedH U.vm) (hb : b ≤ s.heap.size) (hq : ∀ q : Nat, q < b → H[q]? = s.heap[q]?) : pm_EX b ad X U H := by
  obtain ⟨h1, h2, h3, h4, h5, h6, h7⟩ := h
  have hq' : ∀ a : Nat, a < s.heap.size → ¬ b ≤ a → H[a]? = s.heap[a]? := fun a _ h => hq a (by omega)
  have hv := hW.alike
  exact ⟨fun j t n f hj => ⟨(h1 j t n f hj).1, (h1 j t n f hj).2.1, ((h1 j t n f hj).2.2.1.kept hq').moved hv, (h1 j t n f hj).2.2.2⟩, fun q hm => ((h2 q hm).kept hq').moved hv, fun i hi => ⟨((h3 i hi).1.kept hq').moved hv, ((h3 i hi).2.1.kept hq').moved hv, ((h3 i hi).2.2.kept hq').moved hv⟩,
    fun q hm => vk_R.warm hW (h4 q hm), fun q hm => va_Nw.warmM hW (h5 q hm), pm_AO hv h6, pm_AO hv h7⟩
theorem pm_EX.same {b : Nat} {ad : Nat → Nat} {X : pm_X} {u U : State} {H : Heap} (h : pm_EX b ad X u H) (hv : U.vm = u.vm) : pm_EX b ad X U H := by
  obtain ⟨h1, h2, h3, h4, h5, h6, h7⟩ := h
  have ha : u.vm.Alike U.vm := by rw [hv]; exact Vm.Alike.refl _
  exact ⟨fun j t n f hj => ⟨(h1 j t n f hj).1, (h1 j t n f hj).2.1, (h1 j t n f hj).2.2.1.moved ha, (h1 j t n f hj).2.2.2⟩, fun q hm => (h2 q hm).moved ha, fun i hi => ⟨(h3 i hi).1.moved ha, (h3 i hi).2.1.moved ha, (h3 i hi).2.2.moved ha⟩,
    fun q hm => vk_R.same hv (h4 q hm), fun q hm => va_Nw.same rfl hv.symm (h5 q hm), pm_AO ha h6, pm_AO ha h7⟩
theorem pm_sl_app (L L' : List (Nat × Nat × Nat)) : pm_sl (L ++ L') = pm_sl L + pm_sl L' := by simp [pm_sl]
theorem pm_sl_rep (n : Nat) (sh : Nat × Nat × Nat) : pm_sl (List.replicate n sh) = n * sh.2.2 := by simp [pm_sl, pm_sl1]
section PMN
variable {p : Program} {l : Launch} {e : Env} {R : Room} {s : State} {m : MethodId} {args : Array Value} {below : List Frame} {meth : Method} {c : Code} {Q : State → Prop}
variable {b : Nat} {ad : Nat → Nat} {ca : Nat → ClassId} {fc : pm_K} {D : va_G} {cc : ByteArray} {nL n0 s0 : Nat} {pc pc' : Nat} {ls st st' : List pm_V} {σ : pm_S} {H H1 : Heap} {locs : List Loc} {cells slots : Nat} {X : pm_X}
/-- new cells behind the old ones -/
theorem pm_P_new {L L' : List (Nat × Nat × Nat)} {μ μ' : Nat → Nat → Int} (hP : va_P D vwCl (pm_ws b ad ca fc (L, μ)) H) (hk : ∀ q : Nat, q < H.size → H1[q]? = H[q]?) (hμ : ∀ i, i < L.length → ∀ k, μ' i k = μ i k)
    (hc : ∀ k sh, pm_get L' k = some sh → va_at D vwCl (b + (L.length + k), pm_cell b ad ca fc μ' (L.length + k) sh) H1) : va_P D vwCl (pm_ws b ad ca fc (L ++ L', μ')) H1 := by
  intro k q hq
  rw [pm_ws_get] at hq
  show va_at _ _ _ _
  have hq1 : (pm_get (L ++ L') k).map (fun sh => (b + k, pm_cell b ad ca fc μ' k sh)) = some q := hq
  rw [pm_get_app] at hq1
  by_cases hl : k < L.length
  · rw [if_pos hl] at hq1
    cases hg : pm_get L k with
    | none => rw [hg] at hq1; cases hq1
    | some sh =>
      rw [hg] at hq1
      cases hq1
      have h1 := hP k _ (pm_ws_at (σ := (L, μ)) hg)
      show va_at D vwCl (b + k, pm_cell b ad ca fc μ' k sh) H1
      rw [pm_cell_congr (μ := μ') (μ' := μ) (hμ k hl)]
      exact h1.kept (hk _ h1.lt)
  · rw [if_neg hl] at hq1
    cases hg : pm_get L' (k - L.length) with
    | none => rw [hg] at hq1; cases hq1
    | some sh =>
      rw [hg] at hq1
      cases hq1
      have h1 := hc _ _ hg
      rw [show L.length + (k - L.length) = k by omega] at h1
      exact h1
theorem pm_mok_new {L L' : List (Nat × Nat × Nat)} {μ μ' : Nat → Nat → Int} (h : pm_mok fc (L, μ)) (hl : (L ++ L').length ≤ 1000) (hμ : ∀ i, i < L.length → ∀ k, μ' i k = μ i k)
    (hsh : ∀ k sh, pm_get L' k = some sh → (sh.1 ≠ 0 → sh.2.1 ≤ 5 ∧ sh.2.2 < 2147483648) ∧ ∀ j, j < sh.2.2 → pm_good fc sh j (μ' (L.length + k) j)) : pm_mok fc (L ++ L', μ') := by
  refine ⟨⟨hl, fun i sh hi h0 => ?_⟩, fun i sh hi k hk => ?_⟩
  · have hi1 : pm_get (L ++ L') i = some sh := hi
    rw [pm_get_app] at hi1
    by_cases hil : i < L.length
    · rw [if_pos hil] at hi1
      exact h.1.2 i sh hi1 h0
    · rw [if_neg hil] at hi1
      exact (hsh _ _ hi1).1 h0
  · have hi1 : pm_get (L ++ L') i = some sh := hi
    rw [pm_get_app] at hi1
    by_cases hil : i < L.length
    · rw [if_pos hil] at hi1
      have h2 := h.2 i sh hi1 k hk
      show pm_good fc sh k (μ' i k)
      rw [hμ i hil k]
      exact h2
    · rw [if_neg hil] at hi1
      have h2 := (hsh _ _ hi1).2 k hk
      rw [show L.length + (i - L.length) = i by omega] at h2
      exact h2
theorem pm_new_ne {μ : Nat → Nat → Int} {c0 : Nat} {d : Nat → Int} : ∀ i, i < c0 → ∀ k, pm_new μ c0 d i k = μ i k := fun i hi k => if_neg (by omega)
theorem pm_get_one {α : Type} {x y : α} {k : Nat} (h : pm_get [x] k = some y) : k = 0 ∧ x = y := by
  match k, h with
  | 0, h => exact ⟨rfl, Option.some.inj h⟩
theorem pm_newa_inv {t : Nat} {g : pm_F ⊕ pm_R} (h : pm_newa t pc ls st σ = some g) : ∃ n r, st = (0, n) :: r ∧ 0 ≤ n ∧ n ≤ 60000 ∧ σ.1.length < 900 ∧ g = .inl (pc + 2, ls, (2, .ofNat σ.1.length) :: r, (σ.1 ++ [(1, t, n.toNat)], pm_new σ.2 σ.1.length (fun _ => 0))) := by
  unfold pm_newa at h
  split at h
  · split at h
    · next hc => exact ⟨_, _, rfl, hc.1, hc.2.1, hc.2.2, pm_nx_inv h⟩
    · cases h
  · cases h
def pm_aty : Nat → ArrayType
  | 0 => .int
  | 1 => .long
  | _ => .boolean
theorem pm_s_newa {t : Nat} {g : pm_F ⊕ pm_R} (ht : t ≤ 2) (hx : p.tables.exec = Jvm.exec) (hb : c.code = cc) (hts : ∀ w ∈ pm_U, w.before args s = true) (hK : va_K D vwCl (pm_tys ca) s) (hin : Cond.arrayClass (newarray.typeOf (pm_aty t)) ∈ pm_U) (hd : decode cc pc = .ok (.newarray (pm_aty t), 2)) (h : pm_newa t pc ls st σ = some g)
    (hroom : ∀ g' : pm_F, g = .inl g' → g'.2.2.2.1.length ≤ R.cells + n0 ∧ pm_sl g'.2.2.2.1 ≤ R.slots + s0) (kk : ∀ g', g = .inl g' → pm_W p l e R s m args below meth c Q b ad ca fc D nL n0 s0 g') : pm_W p l e R s m args below meth c Q b ad ca fc D nL n0 s0 (pc, ls, st, σ) := by
  obtain ⟨n, rest, rfl, hn0, hn1, hlen, ge⟩ := pm_newa_inv h
  obtain ⟨r1, r2⟩ := hroom _ ge
  have r1 : (σ.1 ++ [(1, t, n.toNat)]).length ≤ R.cells + n0 := r1
  have r2 : pm_sl (σ.1 ++ [(1, t, n.toNat)]) ≤ R.slots + s0 := r2
  rw [List.length_append] at r1
  rw [pm_sl_app] at r2
  have e9 : pm_sl [((1, t, n.toNat) : Nat × Nat × Nat)] = n.toNat := by simp [pm_sl, pm_sl1]
  have e8 : ([((1, t, n.toNat) : Nat × Nat × Nat)]).length = 1 := rfl
  intro H locs rls cells slots h1 h2 h3 h4 h5 h6 h7 h8
  have h7 : cells + n0 = σ.1.length := h7
  have h8 : slots + s0 = pm_sl σ.1 := h8
  have h3 : H.size = b + σ.1.length := h3
  have hnk := (ok1 h6.2.1).1
  have eN : (Int32.ofInt n).toNatClampNeg = n.toNat := i32_nat hn0 hnk.2
  have hcb : n.toNat * componentBytes (newarray.typeOf (pm_aty t)) ≤ 536870912 := by
    have h9 : componentBytes (newarray.typeOf (pm_aty t)) ≤ 8 := by
      match t, ht with
      | 0, _ => decide
      | 1, _ => decide
      | 2, _ => decide
    have h10 : n.toNat ≤ 60000 := by omega
    exact Nat.le_trans (Nat.mul_le_mul h10 h9) (by decide)
  show W p l e R s m args below meth c H locs cells slots Q (F0 m pc rls (.int (Int32.ofInt n) :: rest.map (pm_val b ad)))
  refine va_newaK hx hb (hts _ hin) rfl hd rfl (fun q => ?_) eN hcb (by omega) (by omega) h3 fun H1 cA q1 q2 q3 q4 q5 => ?_
  · rw [Int32.lt_iff_toInt_lt, i32_in hnk] at q
    simp at q
    omega
  have hcA : cA = ca t := by
    match t, ht with
    | 0, _ => exact Option.some.inj (q5.symm.trans (hK.2 0 _ rfl).2)
    | 1, _ => exact Option.some.inj (q5.symm.trans (hK.2 1 _ rfl).2)
    | 2, _ => exact Option.some.inj (q5.symm.trans (hK.2 2 _ rfl).2)
  subst hcA
  have hP1 : va_P D vwCl (pm_ws b ad ca fc (σ.1 ++ [(1, t, n.toNat)], pm_new σ.2 σ.1.length (fun _ => 0))) H1 := by
    refine pm_P_new (L := σ.1) (μ := σ.2) h2 (fun q hq => q3 q (by omega)) pm_new_ne (fun k sh hk => ?_)
    obtain ⟨rfl, rfl⟩ := pm_get_one hk
    have e7 : ∀ j, pm_new σ.2 σ.1.length (fun _ => 0) (σ.1.length + 0) j = 0 := fun j => if_pos rfl
    show va_at _ _ _ _
    have e6 : pm_cell b ad ca fc (pm_new σ.2 σ.1.length (fun _ => 0)) (σ.1.length + 0) (1, t, n.toNat) = pm_cell b ad ca fc (fun _ _ => 0) (σ.1.length + 0) (1, t, n.toNat) := pm_cell_congr e7 _
    rw [e6]
    match t, ht with
    | 0, _ => exact q1
    | 1, _ => exact q1
    | 2, _ => exact q1
  have hmok : pm_mok fc (σ.1 ++ [(1, t, n.toNat)], pm_new σ.2 σ.1.length (fun _ => 0)) := by
    refine pm_mok_new (L := σ.1) (μ := σ.2) h6.2.2 (by rw [List.length_append, e8]; omega) pm_new_ne (fun k sh hk => ?_)
    obtain ⟨rfl, rfl⟩ := pm_get_one hk
    refine ⟨fun _ => ⟨by show t ≤ 5; omega, by show n.toNat < 2147483648; omega⟩, fun j _ => ?_⟩
    rw [show pm_new σ.2 σ.1.length (fun _ => 0) (σ.1.length + 0) j = 0 from if_pos rfl]
    match t, ht with
    | 0, _ => exact ⟨by decide, by decide⟩
    | 1, _ => exact ⟨by decide, by decide⟩
    | 2, _ => exact Or.inl rfl
  have last := kk _ ge H1 locs rls (cells + 1) (slots + n.toNat) h1 hP1 (by rw [q2]; show b + σ.1.length + 1 = b + (σ.1 ++ [(1, t, n.toNat)]).length; rw [List.length_append, e8]; omega) (fun q hq => (q3 q (by omega)).trans (h4 q hq)) h5 ⟨h6.1, ok_c trivial (ok1 h6.2.1).2, hmok⟩
    (by show cells + 1 + n0 = (σ.1 ++ [(1, t, n.toNat)]).length; rw [List.length_append, e8]; omega) (by show slots + n.toNat + s0 = pm_sl (σ.1 ++ [(1, t, n.toNat)]); rw [pm_sl_app, e9]; omega)
  have ev : pm_val b ad (2, .ofNat σ.1.length) = .ref (b + σ.1.length) := pm_val_own (by omega)
  rw [List.map_cons, ev] at last
  exact last
theorem pm_newo_inv {a k : Nat} {d : Nat → Int} {g : pm_F ⊕ pm_R} (h : pm_newo a k d pc ls st σ = some g) : σ.1.length < 900 ∧ g = .inl (pc + 3, ls, (2, .ofNat σ.1.length) :: st, (σ.1 ++ [(0, a, k)], pm_new σ.2 σ.1.length d)) := by
  unfold pm_newo at h
  split at h
  · next hc => exact ⟨hc, pm_nx_inv h⟩
  · cases h
theorem pm_s_newo {own : String} {idx a : Nat} {r : vw_C} {g : pm_F ⊕ pm_R} (hx : p.tables.exec = Jvm.exec) (hb : c.code = cc) (hts : ∀ w ∈ pm_U, w.before args s = true) (hown : s.vm.findClass own = some m.cls) (hK : va_K D vwCl (pm_tys ca) s) (hC : pm_CL fc)
    (hr : vwCl[a]? = some r) (hw1 : Cond.classLink own idx r.1 ∈ pm_U) (hw2 : Cond.instantiable r.1 r.2.2 ∈ pm_U) (hw3 : Cond.initialized r.1 ∈ pm_U) (hd : decode cc pc = .ok (.new idx, 3)) (h : pm_newo a r.2.2 (fun k => if fc a k = 2 then -1 else 0) pc ls st σ = some g)
    (hroom : ∀ g' : pm_F, g = .inl g' → g'.2.2.2.1.length ≤ R.cells + n0 ∧ pm_sl g'.2.2.2.1 ≤ R.slots + s0) (kk : ∀ g', g = .inl g' → pm_W p l e R s m args below meth c Q b ad ca fc D nL n0 s0 g') : pm_W p l e R s m args below meth c Q b ad ca fc D nL n0 s0 (pc, ls, st, σ) := by
  obtain ⟨hlen, ge⟩ := pm_newo_inv h
  obtain ⟨c1, c2, ty, c3, c4⟩ := hC a r hr
  obtain ⟨r1, r2⟩ := hroom _ ge
  have r1 : (σ.1 ++ [(0, a, r.2.2)]).length ≤ R.cells + n0 := r1
  have r2 : pm_sl (σ.1 ++ [(0, a, r.2.2)]) ≤ R.slots + s0 := r2
  rw [List.length_append] at r1
  rw [pm_sl_app] at r2
  have e9 : pm_sl [((0, a, r.2.2) : Nat × Nat × Nat)] = r.2.2 := by simp [pm_sl, pm_sl1]
  have e8 : ([((0, a, r.2.2) : Nat × Nat × Nat)]).length = 1 := rfl
  intro H locs rls cells slots h1 h2 h3 h4 h5 h6 h7 h8
  have h7 : cells + n0 = σ.1.length := h7
  have h8 : slots + s0 = pm_sl σ.1 := h8
  have h3 : H.size = b + σ.1.length := h3
  have hKn := hK.1 a _ hr
  refine W.newcK hx hb hown (hts _ hw1) (hts _ hw2) (hts _ hw3) rfl hd (by omega) (by omega) hKn.2.1 h3 fun H1 kC hkC q1 q2 q3 => ?_
  have e7 : ∀ j, pm_new σ.2 σ.1.length (fun k => if fc a k = 2 then -1 else 0) (σ.1.length + 0) j = (if fc a j = 2 then -1 else 0) := fun j => if_pos rfl
  have hP1 : va_P D vwCl (pm_ws b ad ca fc (σ.1 ++ [(0, a, r.2.2)], pm_new σ.2 σ.1.length (fun k => if fc a k = 2 then -1 else 0))) H1 := by
    refine pm_P_new (L := σ.1) (μ := σ.2) h2 (fun q hq => q3 q (by omega)) pm_new_ne (fun k sh hk => ?_)
    obtain ⟨rfl, rfl⟩ := pm_get_one hk
    refine ⟨r, hr, (u_born ty hts c1 hKn hkC q1 c3).to (fun j hj => ?_)⟩
    have e5 : vp_V ((List.range r.2.2).map fun k => pm_val b ad (pm_tag (fc a k), pm_new σ.2 σ.1.length (fun k => if fc a k = 2 then -1 else 0) (σ.1.length + 0) k)) j = pm_val b ad (pm_tag (fc a j), if fc a j = 2 then -1 else 0) := by
      unfold vp_V
      rw [List.getD_eq_getElem?_getD, List.getElem?_map, List.getElem?_range hj]
      show pm_val b ad (pm_tag (fc a j), _) = _
      rw [e7]
    show defaultValue (ty j) = vp_V _ j
    rw [e5]
    obtain ⟨f1, f2⟩ := c4 j hj
    rw [f1] at f2 ⊢
    cases hty : ty j with
    | int => rfl
    | long => rfl
    | boolean => rfl
    | object n => rfl
    | array t => rfl
    | _ => rw [hty] at f2; exact absurd f2 (by decide)
  have hmok : pm_mok fc (σ.1 ++ [(0, a, r.2.2)], pm_new σ.2 σ.1.length (fun k => if fc a k = 2 then -1 else 0)) := by
    refine pm_mok_new (L := σ.1) (μ := σ.2) h6.2.2 (by rw [List.length_append, e8]; omega) pm_new_ne (fun k sh hk => ?_)
    obtain ⟨rfl, rfl⟩ := pm_get_one hk
    refine ⟨fun q => absurd rfl q, fun j hj => ?_⟩
    rw [e7]
    obtain ⟨f1, f2⟩ := c4 j hj
    show pm_ok (pm_tag (fc a j), _) ∧ _
    match hf : fc a j, f2 with
    | 0, _ => exact ⟨⟨by decide, by decide⟩, fun q => by cases q⟩
    | 1, _ => exact ⟨⟨by decide, by decide⟩, fun q => by cases q⟩
    | 2, _ => exact ⟨trivial, fun q => by cases q⟩
    | 3, _ => exact ⟨⟨by decide, by decide⟩, fun _ => Or.inl rfl⟩
  have last := kk _ ge H1 locs rls (cells + 1) (slots + r.2.2) h1 hP1 (by rw [q2]; show b + σ.1.length + 1 = b + (σ.1 ++ [(0, a, r.2.2)]).length; rw [List.length_append, e8]; omega) (fun q hq => (q3 q (by omega)).trans (h4 q hq)) h5 ⟨h6.1, ok_c trivial h6.2.1, hmok⟩
    (by show cells + 1 + n0 = (σ.1 ++ [(0, a, r.2.2)]).length; rw [List.length_append, e8]; omega) (by show slots + r.2.2 + s0 = pm_sl (σ.1 ++ [(0, a, r.2.2)]); rw [pm_sl_app, e9]; omega)
  have ev : pm_val b ad (2, .ofNat σ.1.length) = .ref (b + σ.1.length) := pm_val_own (by omega)
  rw [List.map_cons, ev] at last
  exact last
theorem pm_mna_inv {t : Nat} {g : pm_F ⊕ pm_R} (h : pm_mna t pc ls st σ = some g) : ∃ k n r, st = (0, k) :: (0, n) :: r ∧ 0 ≤ n ∧ n ≤ 100 ∧ 0 ≤ k ∧ k ≤ 60000 ∧ σ.1.length < 800 ∧ g = .inl (pc + 4, ls, (2, .ofNat σ.1.length) :: r, (σ.1 ++ (1, t, n.toNat) :: List.replicate n.toNat (1, t - 4, k.toNat), pm_mnew σ.2 σ.1.length n.toNat)) := by
  unfold pm_mna at h
  split at h
  · split at h
    · next hc => exact ⟨_, _, _, rfl, hc.1, hc.2.1, hc.2.2.1, hc.2.2.2.1, hc.2.2.2.2, pm_nx_inv h⟩
    · cases h
  · cases h
theorem pm_get_rep {α : Type} {x y : α} : ∀ {n k : Nat}, pm_get (List.replicate n x) k = some y → k < n ∧ x = y
  | 0, k, h => by cases k <;> cases h
  | n + 1, 0, h => ⟨Nat.succ_pos n, Option.some.inj h⟩
  | n + 1, k + 1, h => by
    obtain ⟨h1, h2⟩ := pm_get_rep (n := n) (k := k) h
    exact ⟨Nat.succ_lt_succ h1, h2⟩
theorem pm_s_mna {own : String} {idx t : Nat} {g : pm_F ⊕ pm_R} (ht : t = 4 ∨ t = 5) (hx : p.tables.exec = Jvm.exec) (hb : c.code = cc) (hts : ∀ w ∈ pm_U, w.before args s = true) (hown : s.vm.findClass own = some m.cls) (hK : va_K D vwCl (pm_tys ca) s) (hEX : pm_EX b ad X s s.heap)
    (hw1 : Cond.classLink own idx ("[" ++ (pm_ety t).toString) ∈ pm_U) (hw2 : Cond.arrayClass (pm_ety (t - 4)) ∈ pm_U) (hd : decode cc pc = .ok (.multianewarray idx 2, 4)) (h : pm_mna t pc ls st σ = some g)
    (hroom : ∀ g' : pm_F, g = .inl g' → g'.2.2.2.1.length ≤ R.cells + n0 ∧ pm_sl g'.2.2.2.1 ≤ R.slots + s0) (kk : ∀ g', g = .inl g' → pm_W p l e R s m args below meth c Q b ad ca fc D nL n0 s0 g') : pm_W p l e R s m args below meth c Q b ad ca fc D nL n0 s0 (pc, ls, st, σ) := by
  obtain ⟨k, n, rest, rfl, hn0, hn1, hk0, hk1, hlen, ge⟩ := pm_mna_inv h
  obtain ⟨r1, r2⟩ := hroom _ ge
  have e8 : ((1, t, n.toNat) :: List.replicate n.toNat ((1, t - 4, k.toNat) : Nat × Nat × Nat)).length = n.toNat + 1 := by simp
  have e9 : pm_sl ((1, t, n.toNat) :: List.replicate n.toNat ((1, t - 4, k.toNat) : Nat × Nat × Nat)) = n.toNat + n.toNat * k.toNat := by
    rw [show ((1, t, n.toNat) :: List.replicate n.toNat ((1, t - 4, k.toNat) : Nat × Nat × Nat)) = [(1, t, n.toNat)] ++ List.replicate n.toNat (1, t - 4, k.toNat) from rfl, pm_sl_app, pm_sl_rep]
    simp [pm_sl, pm_sl1]
  have r1 : (σ.1 ++ (1, t, n.toNat) :: List.replicate n.toNat (1, t - 4, k.toNat)).length ≤ R.cells + n0 := r1
  have r2 : pm_sl (σ.1 ++ (1, t, n.toNat) :: List.replicate n.toNat (1, t - 4, k.toNat)) ≤ R.slots + s0 := r2
  rw [List.length_append, e8] at r1
  rw [pm_sl_app, e9] at r2
  have hover : (Cond.arrayOver (pm_ety t)).before args s = true := by
    rcases ht with rfl | rfl
    · exact hEX.2.2.2.2.2.1 args
    · exact hEX.2.2.2.2.2.2 args
  have ety : pm_ety t = .array (pm_ety (t - 4)) := by
    rcases ht with rfl | rfl
    · rfl
    · rfl
  have edv : fits (pm_ety (t - 4)) (defaultValue (pm_ety (t - 4))) = true ∧ (defaultValue (pm_ety (t - 4))).isDefault = true ∧ componentBytes (pm_ety (t - 4)) ≤ 8 := by
    rcases ht with rfl | rfl
    · exact ⟨rfl, rfl, by decide⟩
    · exact ⟨rfl, rfl, by decide⟩
  intro H locs rls cells slots h1 h2 h3 h4 h5 h6 h7 h8
  have h7 : cells + n0 = σ.1.length := h7
  have h8 : slots + s0 = pm_sl σ.1 := h8
  have h3 : H.size = b + σ.1.length := h3
  obtain ⟨hkk, hnn, hrr⟩ := ok2 h6.2.1
  have eN : (Int32.ofInt n).toNatClampNeg = n.toNat := i32_nat hn0 hnn.2
  have eK : (Int32.ofInt k).toNatClampNeg = k.toNat := i32_nat hk0 hkk.2
  have neg : ∀ z : Int, 0 ≤ z → pm_ok (0, z) → ¬ Int32.ofInt z < 0 := fun z h0 hz q => by
    rw [Int32.lt_iff_toInt_lt, i32_in hz] at q
    simp at q
    omega
  intro T hT Xs
  rw [ety] at hover hw1
  obtain ⟨vm₁, cA, comp, -, fA, fC, hO, -, X', step⟩ := Xs.multianewarray2F hx hown (hts _ hw1) hover (hts _ hw2) (g := F0 m pc rls (.int (Int32.ofInt k) :: .int (Int32.ofInt n) :: rest.map (pm_val b ad))) rfl (by rw [hb]; exact hd) rfl (neg n hn0 hnn) (neg k hk0 hkk) (by rw [eN]; omega) (by rw [eK]; exact Nat.le_trans (Nat.mul_le_mul (show k.toNat ≤ 60000 by omega) edv.2.2) (by decide)) (by rw [eK]; omega) edv.1 edv.2.1 (by rw [eN]; omega) (by rw [eN, eK]; omega)
  rw [eN, eK] at X' step
  have hcA : cA = ca t := by
    rcases ht with rfl | rfl
    · exact Option.some.inj (fA.symm.trans (hK.2 4 _ rfl).2)
    · exact Option.some.inj (fA.symm.trans (hK.2 5 _ rfl).2)
  have hcc : comp = ca (t - 4) := by
    rcases ht with rfl | rfl
    · exact Option.some.inj (fC.symm.trans (hK.2 0 _ rfl).2)
    · exact Option.some.inj (fC.symm.trans (hK.2 1 _ rfl).2)
  subst hcA
  subst hcc
  generalize hF : Jvm.Free.Multi.fill (T.setVm vm₁) (ca t) (ca (t - 4)) n.toNat k.toNat (defaultValue (pm_ety (t - 4))) n.toNat = F at X' step
  have hTh : (T.setVm vm₁).heap = H := hT
  obtain ⟨f1, f2, -, -⟩ := Jvm.Free.Multi.fill_facts (T.setVm vm₁) (ca t) (ca (t - 4)) n.toNat k.toNat (defaultValue (pm_ety (t - 4))) n.toNat
  rw [hF, hTh] at f1 f2
  have hold : ∀ x : Nat, x < H.size → F.heap[x]? = H[x]? := fun x hx => by
    have := Jvm.Free.Multi.fill_old (T.setVm vm₁) (ca t) (ca (t - 4)) n.toNat k.toNat (defaultValue (pm_ety (t - 4))) (a := x) (by rw [hTh]; exact hx) n.toNat
    rw [hF, hTh] at this
    exact this
  have hrow : ∀ j : Nat, j < n.toNat → F.heap[H.size + 1 + j]? = some (Jvm.Free.Multi.innerC (ca (t - 4)) k.toNat (defaultValue (pm_ety (t - 4)))) := fun j hj => by
    have := Jvm.Free.Multi.fill_inner (T.setVm vm₁) (ca t) (ca (t - 4)) n.toNat k.toNat (defaultValue (pm_ety (t - 4))) n.toNat j hj
    rw [hF, hTh] at this
    exact this
  rw [vr_outer] at f2
  have hμ : ∀ i, i < σ.1.length → ∀ j, pm_mnew σ.2 σ.1.length n.toNat i j = σ.2 i j := fun i hi j => by
    unfold pm_mnew
    rw [if_neg (by omega), if_neg (by omega)]
  have hout : ∀ j, pm_mnew σ.2 σ.1.length n.toNat (σ.1.length + 0) j = ((σ.1.length + 1 + j : Nat) : Int) := fun j => if_pos rfl
  have hinn : ∀ i, i < n.toNat → ∀ j, pm_mnew σ.2 σ.1.length n.toNat (σ.1.length + (i + 1)) j = 0 := fun i hi j => by
    unfold pm_mnew
    rw [if_neg (by omega), if_pos (by omega)]
  have hP1 : va_P D vwCl (pm_ws b ad ca fc (σ.1 ++ (1, t, n.toNat) :: List.replicate n.toNat (1, t - 4, k.toNat), pm_mnew σ.2 σ.1.length n.toNat)) F.heap := by
    refine pm_P_new (L := σ.1) (μ := σ.2) h2 hold hμ (fun i sh hi => ?_)
    match i, hi with
    | 0, hi =>
      have hs : ((1, t, n.toNat) : Nat × Nat × Nat) = sh := Option.some.inj hi
      subst hs
      have e1 : F.heap[b + (σ.1.length + 0)]? = some (arrV (ca t) n.toNat (fun j => va_rf (pm_rf b ad (pm_mnew σ.2 σ.1.length n.toNat (σ.1.length + 0) j)))) := by
        rw [show b + (σ.1.length + 0) = H.size by omega, f2]
        congr 1
        unfold arrV
        congr 2
        funext j
        show va_rf (if j.val < n.toNat then some (H.size + 1 + j.val) else none) = va_rf (pm_rf b ad (pm_mnew σ.2 σ.1.length n.toNat (σ.1.length + 0) j.val))
        rw [hout, if_pos j.isLt]
        show va_rf _ = va_rf (some (pm_ad b ad (σ.1.length + 1 + j.val)))
        rw [pm_ad_lt (by have := j.isLt; omega)]
        congr 2
        omega
      rcases ht with rfl | rfl
      · exact e1
      · exact e1
    | i + 1, hi =>
      obtain ⟨hin, hs⟩ := pm_get_rep (k := i) hi
      subst hs
      have e1 := hrow i hin
      rw [show H.size + 1 + i = b + (σ.1.length + (i + 1)) by omega] at e1
      show va_at _ _ _ _
      rw [pm_cell_congr (μ := pm_mnew σ.2 σ.1.length n.toNat) (μ' := fun _ _ => 0) (hinn i hin)]
      unfold Jvm.Free.Multi.innerC at e1
      rw [arrV_new] at e1
      rcases ht with rfl | rfl
      · exact e1
      · exact e1
  have hmok : pm_mok fc (σ.1 ++ (1, t, n.toNat) :: List.replicate n.toNat (1, t - 4, k.toNat), pm_mnew σ.2 σ.1.length n.toNat) := by
    refine pm_mok_new (L := σ.1) (μ := σ.2) h6.2.2 (by rw [List.length_append, e8]; omega) hμ (fun i sh hi => ?_)
    match i, hi with
    | 0, hi =>
      have hs : ((1, t, n.toNat) : Nat × Nat × Nat) = sh := Option.some.inj hi
      subst hs
      refine ⟨fun _ => ⟨by show t ≤ 5; omega, by show n.toNat < 2147483648; omega⟩, fun j _ => ?_⟩
      rcases ht with rfl | rfl
      · exact trivial
      · exact trivial
    | i + 1, hi =>
      obtain ⟨hin, hs⟩ := pm_get_rep (k := i) hi
      subst hs
      refine ⟨fun _ => ⟨by show t - 4 ≤ 5; omega, by show k.toNat < 2147483648; omega⟩, fun j _ => ?_⟩
      rw [hinn i hin]
      rcases ht with rfl | rfl
      · exact ⟨by decide, by decide⟩
      · exact ⟨by decide, by decide⟩
  have last := kk _ ge F.heap locs rls (cells + 1 + n.toNat) (slots + n.toNat + n.toNat * k.toNat) h1 hP1 (by rw [f1]; show H.size + 1 + n.toNat = b + (σ.1 ++ (1, t, n.toNat) :: List.replicate n.toNat (1, t - 4, k.toNat)).length; rw [List.length_append, e8]; omega) (fun q hq => (hold q (by omega)).trans (h4 q hq)) h5 ⟨h6.1, ok_c trivial hrr, hmok⟩
    (by show cells + 1 + n.toNat + n0 = (σ.1 ++ (1, t, n.toNat) :: List.replicate n.toNat (1, t - 4, k.toNat)).length; rw [List.length_append, e8]; omega) (by show slots + n.toNat + n.toNat * k.toNat + s0 = pm_sl (σ.1 ++ (1, t, n.toNat) :: List.replicate n.toNat (1, t - 4, k.toNat)); rw [pm_sl_app, e9]; omega)
  have ev : pm_val b ad (2, .ofNat σ.1.length) = .ref (b + σ.1.length) := pm_val_own (by omega)
  rw [List.map_cons, ev] at last
  obtain ⟨t', a1, b1⟩ := last F rfl X'
  refine ⟨t', step t' ?_, b1⟩
  have e1 : T.heap.size = b + σ.1.length := by rw [hT]; exact h3
  rw [e1]
  exact a1
end PMN
