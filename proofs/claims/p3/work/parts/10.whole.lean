/-! ONE STEP, A RUN, AND THE THEOREM: what the pure machine answers, the machine answers -/
theorem i8_lit {n : Int} (h1 : -128 ≤ n) (h2 : n ≤ 127) : (Int8.ofInt n).toInt32 = Int32.ofInt n := by
  apply i32_ext
  have e : (Int8.ofInt n).toInt = n := by
    rw [Int8.toInt_ofInt]
    show n.bmod 256 = n
    rw [Int.bmod_def]
    split <;> omega
  rw [Int8.toInt_toInt32, e, i32_in (by omega)]
theorem i16_lit {n : Int} (h1 : -32768 ≤ n) (h2 : n ≤ 32767) : (Int16.ofInt n).toInt32 = Int32.ofInt n := by
  apply i32_ext
  have e : (Int16.ofInt n).toInt = n := by
    rw [Int16.toInt_ofInt]
    show n.bmod 65536 = n
    rw [Int.bmod_def]
    split <;> omega
  rw [Int16.toInt_toInt32, e, i32_in (by omega)]
section PMT
variable {p : Program} {l : Launch} {e : Env} {R : Room} {s : State} {m : MethodId} {args : Array Value} {below : List Frame} {meth : Method} {c : Code} {Q : State → Prop}
variable {b : Nat} {ad : Nat → Nat} {ca : Nat → ClassId} {fc : pm_K} {D : va_G} {cc : ByteArray} {nL n0 s0 : Nat} {pc pc' : Nat} {ls st st' : List pm_V} {σ : pm_S} {H H1 : Heap} {locs : List Loc} {cells slots : Nat} {X : pm_X} {T : List pm_M} {d : Nat} {own nm : String} {ret : Option FieldType} {x : pm_A}
theorem pm_tsw_mem {dflt lo hi z o : Int} {offs : Array Int} (h : pm_tsw dflt lo hi offs z = some o) : o = dflt ∨ o ∈ offs.toList := by
  unfold pm_tsw at h
  split at h
  · exact Or.inl (Option.some.inj h).symm
  · exact Or.inr (pm_get_mem h)
theorem pm_lsw_mem {dflt z : Int} : ∀ {l : List (Int × Int)}, Op.lookupswitch.offset l dflt z = dflt ∨ ∃ q ∈ l, Op.lookupswitch.offset l dflt z = q.2
  | [] => Or.inl rfl
  | (a, o) :: l => by
    have e1 : Op.lookupswitch.offset ((a, o) :: l) dflt z = if a = z then o else Op.lookupswitch.offset l dflt z := by simp [Op.lookupswitch.offset]
    rw [e1]
    by_cases hz : a = z
    · rw [if_pos hz]
      exact Or.inr ⟨(a, o), by simp, rfl⟩
    · rw [if_neg hz]
      rcases pm_lsw_mem (dflt := dflt) (z := z) (l := l) with h | ⟨q, h1, h2⟩
      · exact Or.inl h
      · exact Or.inr ⟨q, List.mem_cons_of_mem _ h1, h2⟩
theorem pm_s_getS {k idx : Nat} {g' : pm_F} (hx : p.tables.exec = Jvm.exec) (hb : c.code = cc) (hts : ∀ w ∈ pm_U, w.before args s = true) (hown : s.vm.findClass own = some m.cls) (h0 : s.heap.size = b + n0) (hEX : pm_EX b ad X s s.heap)
    (hw : (k = 0 ∧ Cond.fieldLink own idx "java/lang/String" "value" "[B" ∈ pm_U) ∨ (k = 1 ∧ Cond.fieldLink own idx "java/lang/String" "coder" "B" ∈ pm_U)) (hd : decode cc pc = .ok (.getfield idx, 3)) (h : pm_getS k pc ls st σ = some (.inl g')) (kk : pm_W p l e R s m args below meth c Q b ad ca fc D nL n0 s0 g') : pm_W p l e R s m args below meth c Q b ad ca fc D nL n0 s0 (pc, ls, st, σ) := by
  obtain ⟨i, r, v, rfl, hi1, hi2, hv, ge⟩ := pm_getS_inv h
  cases ge
  intro H locs rls cells slots h1 h2 h3 h4 h5 h6 h7 h8
  obtain ⟨-, q2, q3⟩ := hEX.2.2.1 (i - 2000) (by omega)
  rw [show 2000 + (i - 2000) = i by omega] at q2 q3
  have ei : pm_val b ad (2, .ofNat i) = .ref (ad i) := by
    show Value.ref (pm_ad b ad i) = _
    unfold pm_ad
    rw [if_neg (by omega)]
  show W p l e R s m args below meth c H locs cells slots Q (F0 m pc rls (pm_val b ad (2, .ofNat i) :: r.map (pm_val b ad)))
  rw [ei]
  have hS := pm_toS h0 h4 h5 h7 h3
  rcases hw with ⟨rfl, hw⟩ | ⟨rfl, hw⟩
  · rcases hv with ⟨-, rfl⟩ | ⟨hk, -⟩
    · refine vk_getf hx hb q3 hS hown (hts _ hw) (fun x hx => hx) hd ?_
      have last := kk H locs rls cells slots h1 h2 h3 h4 h5 ⟨h6.1, ok_c trivial (ok1 h6.2.1).2, h6.2.2⟩ h7 h8
      have ev : pm_val b ad (2, .ofNat (i - 2000 + 1010)) = .ref (ad (1010 + (i - 2000))) := by
        show Value.ref (pm_ad b ad _) = _
        unfold pm_ad
        rw [if_neg (by omega), Nat.add_comm]
      rw [List.map_cons, ev] at last
      exact last
    · exact absurd rfl hk
  · rcases hv with ⟨hk, -⟩ | ⟨-, rfl⟩
    · cases hk
    · exact vk_getf hx hb q2 hS hown (hts _ hw) (fun x hx => hx) hd (kk H locs rls cells slots h1 h2 h3 h4 h5 ⟨h6.1, ok_c (by exact ⟨by decide, by decide⟩) (ok1 h6.2.1).2, h6.2.2⟩ h7 h8)
theorem pm_cpy_ne {μ : Nat → Nat → Int} {sr dd sp dp n : Nat} : ∀ i, i ≠ dd → ∀ k, pm_cpy μ sr dd sp dp n i k = μ i k := fun i hi k => if_neg (fun h => hi h.1)
theorem pm_s_copy {idx : Nat} {g' : pm_F} (F : pm_Fx p l R s m args meth c b ad ca fc D nL n0 X T d cc own nm) (hw1 : Cond.methodLink own idx arraycopyName ∈ pm_U) (hw2 : Cond.native arraycopyName ∈ pm_U) (hw3 : Cond.static arraycopyName ∈ pm_U) (hw4 : Cond.initialized "java/lang/System" ∈ pm_U)
    (hd : decode cc pc = .ok (.invokestatic idx, 3)) (h : pm_copy pc ls st σ = some (.inl g')) (kk : pm_W p l e R s m args below meth c Q b ad ca fc D nL n0 s0 g') : pm_W p l e R s m args below meth c Q b ad ca fc D nL n0 s0 (pc, ls, st, σ) := by
  obtain ⟨hx, hb, hml, hown, hts, hK, hEX, hC, h0, hnm, hfr, hlo, hSnd⟩ := F
  obtain ⟨n, dp, dd, sp, sr, r, ns, nd, t, rfl, hgs, hgd, hfit, ht, hsp, hdp, hn, hb1, hb2, ge⟩ := pm_copy_inv h
  cases ge
  intro H locs rls cells slots h1 h2 h3 h4 h5 h6 h7 h8
  have o1 : pm_ok (0, n) := h6.2.1 _ (by simp)
  have o2 : pm_ok (0, dp) := h6.2.1 _ (by simp)
  have o3 : pm_ok (0, sp) := h6.2.1 _ (by simp)
  have or : ∀ v ∈ r, pm_ok v := fun v hv => h6.2.1 v (by simp [hv])
  have eN := i32_nat hn o1.2
  have eD := i32_nat hdp o2.2
  have eS := i32_nat hsp o3.2
  have neg : ∀ z : Int, 0 ≤ z → pm_ok (0, z) → ¬ Int32.ofInt z < 0 := fun z h0 hz q => by
    rw [Int32.lt_iff_toInt_lt, i32_in hz] at q
    simp at q
    omega
  have hlen : σ.1.length ≤ 1000 := h6.2.2.1.1
  have es : pm_val b ad (2, .ofNat sr) = .ref (b + sr) := pm_val_own (Nat.lt_of_lt_of_le (pm_get_lt hgs) hlen)
  have ed : pm_val b ad (2, .ofNat dd) = .ref (b + dd) := pm_val_own (Nat.lt_of_lt_of_le (pm_get_lt hgd) hlen)
  have hloc : ((r.map (pm_val b ad)).map fun v => v.category).sum + (nativeFrameWords "java/lang/System" "arraycopy" 5 + 11) ≤ R.locals := by
    have := pm_fit_le b ad 4 r hfit
    have e7 : nativeFrameWords "java/lang/System" "arraycopy" 5 = 7 := by decide
    rw [e7]
    omega
  show W p l e R s m args below meth c H locs cells slots Q (F0 m pc rls (.int (Int32.ofInt n) :: .int (Int32.ofInt dp) :: pm_val b ad (2, .ofNat dd) :: .int (Int32.ofInt sp) :: pm_val b ad (2, .ofNat sr) :: r.map (pm_val b ad)))
  rw [es, ed]
  have hmok : pm_mok fc (σ.1, pm_cpy σ.2 sr dd sp.toNat dp.toNat n.toNat) := by
    refine ⟨h6.2.2.1, fun i sh hi k hk => ?_⟩
    show pm_good fc sh k (if i = dd ∧ dp.toNat ≤ k ∧ k < dp.toNat + n.toNat then σ.2 sr (sp.toNat + (k - dp.toNat)) else σ.2 i k)
    by_cases hc : i = dd ∧ dp.toNat ≤ k ∧ k < dp.toNat + n.toNat
    · rw [if_pos hc]
      obtain ⟨rfl, hc1, hc2⟩ := hc
      have hi' : pm_get σ.1 i = some sh := hi
      rw [hgd] at hi'
      cases hi'
      have hv := h6.2.2.2 sr _ hgs (sp.toNat + (k - dp.toNat)) (by show _ < ns; omega)
      rcases ht with rfl | rfl
      · exact hv
      · exact hv
    · rw [if_neg hc]
      exact h6.2.2.2 i sh hi k hk
  have hls : c.maxLocals = rls.size := by rw [hml]; exact h1.1.symm
  have hS := pm_toS h0 h4 h5 h7 h3
  have fin : ∀ (H1 : Heap) (locs1 : List Loc), va_P D vwCl ((pm_ws b ad ca fc σ).set dd (b + dd, pm_cell b ad ca fc (pm_cpy σ.2 sr dd sp.toNat dp.toNat n.toNat) dd (1, t, nd))) H1 → va_S (fun q => b ≤ q) s.heap H1 locs1 → W p l e R s m args below meth c H1 locs1 cells slots Q (F0 m (pc + 3) rls (r.map (pm_val b ad))) := by
    intro H1 locs1 hP1 hS1
    rw [pm_ws_set (L := σ.1) (μ := σ.2) hgd pm_cpy_ne] at hP1
    obtain ⟨q1, q2⟩ := pm_ofS h0 hS1
    refine pm_szW h0 hP1 h7 (fun hz => ?_)
    exact kk H1 locs1 rls cells slots h1 hP1 hz q1 q2 ⟨h6.1, or, hmok⟩ h7 h8
  rcases ht with rfl | rfl
  · refine va_copyi hx hb hls hown (hts _ hw1) (hts _ hw2) (hts _ hw3) (hts _ hw4) hK h2 (pm_D b ad ca fc σ) hS sr dd 0 0 (pm_ws_at hgs) (pm_ws_at hgd) rfl rfl rfl (neg sp hsp o3) (neg dp hdp o2) (neg n hn o1) (by rw [eS, eN]; omega) (by rw [eD, eN]; omega) (fun i _ => rfl) (by omega) hloc hd (fun H1 locs1 hP1 _ hS1 => fin H1 locs1 ?_ hS1)
    have ec : pm_cell b ad ca fc (pm_cpy σ.2 sr dd sp.toNat dp.toNat n.toNat) dd (1, 0, nd) = .inl (ca 0, nd, .inl (va_cpy (fun j => Int32.ofInt (σ.2 sr j)) (fun j => Int32.ofInt (σ.2 dd j)) (Int32.ofInt sp).toNatClampNeg (Int32.ofInt dp).toNatClampNeg (Int32.ofInt n).toNatClampNeg)) := by
      show Sum.inl (ca 0, nd, Sum.inl _) = _
      congr 4
      funext j
      rw [eS, eD, eN]
      show Int32.ofInt (if dd = dd ∧ dp.toNat ≤ j ∧ j < dp.toNat + n.toNat then _ else _) = if dp.toNat ≤ j ∧ j < dp.toNat + n.toNat then _ else _
      by_cases hc : dp.toNat ≤ j ∧ j < dp.toNat + n.toNat
      · rw [if_pos ⟨rfl, hc⟩, if_pos hc]
      · rw [if_neg (fun q => hc q.2), if_neg hc]
    rw [ec]
    exact hP1
  · refine va_copyl hx hb hls hown (hts _ hw1) (hts _ hw2) (hts _ hw3) (hts _ hw4) hK h2 (pm_D b ad ca fc σ) hS sr dd 1 1 (pm_ws_at hgs) (pm_ws_at hgd) rfl rfl rfl (neg sp hsp o3) (neg dp hdp o2) (neg n hn o1) (by rw [eS, eN]; omega) (by rw [eD, eN]; omega) (fun i _ => rfl) (by omega) hloc hd (fun H1 locs1 hP1 _ hS1 => fin H1 locs1 ?_ hS1)
    have ec : pm_cell b ad ca fc (pm_cpy σ.2 sr dd sp.toNat dp.toNat n.toNat) dd (1, 1, nd) = .inl (ca 1, nd, .inr (.inl (va_cpy (fun j => Int64.ofInt (σ.2 sr j)) (fun j => Int64.ofInt (σ.2 dd j)) (Int32.ofInt sp).toNatClampNeg (Int32.ofInt dp).toNatClampNeg (Int32.ofInt n).toNatClampNeg))) := by
      show Sum.inl (ca 1, nd, Sum.inr (Sum.inl _)) = _
      congr 5
      funext j
      rw [eS, eD, eN]
      show Int64.ofInt (if dd = dd ∧ dp.toNat ≤ j ∧ j < dp.toNat + n.toNat then _ else _) = if dp.toNat ≤ j ∧ j < dp.toNat + n.toNat then _ else _
      by_cases hc : dp.toNat ≤ j ∧ j < dp.toNat + n.toNat
      · rw [if_pos ⟨rfl, hc⟩, if_pos hc]
      · rw [if_neg (fun q => hc q.2), if_neg hc]
    rw [ec]
    exact hP1
theorem pm_dup1 {t : Nat} {v : Int} (h : t = 0 ∨ t = 2) : (pm_val b ad (t, v)).category = 1 := pm_cat b ad (t, v) (by show t ≠ 1; omega)
set_option maxHeartbeats 4000000 in
theorem pm_s_step {ins : Instr} {g' : pm_F} (F : pm_Fx p l R s m args meth c b ad ca fc D nL n0 X T d cc own nm) (hn : ls.length ≤ nL) (hd : decode cc pc = .ok (ins, pm_len ins x)) (hw : pm_wd T own nm ret pc ins x) (h : pm_exec (pm_E T X fc d) X fc ins x pc ls st σ = some (.inl g'))
    (hroom : g'.2.2.2.1.length ≤ R.cells + n0 ∧ pm_sl g'.2.2.2.1 ≤ R.slots + s0) (kk : pm_W p l e R s m args below meth c Q b ad ca fc D nL n0 s0 g') : pm_W p l e R s m args below meth c Q b ad ca fc D nL n0 s0 (pc, ls, st, σ) := by
  have F0' := F
  obtain ⟨hx, hb, hml, hown, hts, hK, hEX, hC, h0, hnm, hfr, hlo, hSnd⟩ := F
  have K : ∀ g'' : pm_F, (Sum.inl g' : pm_F ⊕ pm_R) = .inl g'' → pm_W p l e R s m args below meth c Q b ad ca fc D nL n0 s0 g'' := fun g'' q => by cases q; exact kk
  have RM : ∀ g'' : pm_F, (Sum.inl g' : pm_F ⊕ pm_R) = .inl g'' → g''.2.2.2.1.length ≤ R.cells + n0 ∧ pm_sl g''.2.2.2.1 ≤ R.slots + s0 := fun g'' q => by cases q; exact hroom
  cases ins with
  | iconst n => exact pm_s_push (v := (0, n)) h (by exact ⟨by have := hw.1; omega, by have := hw.2; omega⟩) (fun H locs rls cells slots rest k => lv_iconst hx hb hd rfl k) K
  | bipush n => exact pm_s_push (v := (0, n)) h (by exact ⟨by have := hw.1; omega, by have := hw.2; omega⟩) (fun H locs rls cells slots rest k => lv_bipush hx hb hd (i8_lit hw.1 hw.2) k) K
  | sipush n => exact pm_s_push (v := (0, n)) h (by exact ⟨by have := hw.1; omega, by have := hw.2; omega⟩) (fun H locs rls cells slots rest k => lv_sipush hx hb hd (i16_lit hw.1 hw.2) k) K
  | lconst n => exact pm_s_push (v := (1, ((n : Nat) : Int))) h (by have := n.isLt; exact ⟨by omega, by omega⟩) (fun H locs rls cells slots rest k => lv_lconst hx hb hd rfl k) K
  | ldc idx =>
    rcases hw with ⟨h1, h2, h3⟩ | ⟨h1, q, hq, h2, h3, h4⟩
    · have h' : pm_nx (pc + 2) ls ((x.1, x.2.2.1) :: st) σ = some (.inl g') := h
      rw [h1] at h'
      exact pm_s_push (v := (0, x.2.2.1)) h' h2 (fun H locs rls cells slots rest k => lv_ldc hx hb hown (hts _ h3) hd k) K
    · have h' : pm_nx (pc + 2) ls ((x.1, x.2.2.1) :: st) σ = some (.inl g') := h
      rw [h1, h4] at h'
      have hR := hEX.2.2.2.1 q hq
      rw [h2, h3] at hR
      exact pm_s_push (v := (2, ((2000 + q.2.2.2 : Nat) : Int))) h' trivial (fun H locs rls cells slots rest k => va_ldcS hx hb hown hR hd (by
        have ev : pm_val b ad (2, ((2000 + q.2.2.2 : Nat) : Int)) = .ref (ad (2000 + q.2.2.2)) := by
          show Value.ref (pm_ad b ad _) = _
          unfold pm_ad
          rw [if_neg (by omega)]
        rw [ev] at k
        exact k)) K
  | ldc_w idx => exact pm_s_push (v := (0, x.2.2.1)) h hw.1 (fun H locs rls cells slots rest k => lv_ldcw hx hb hown (hts _ hw.2) hd k) K
  | ldc2_w idx => exact pm_s_push (v := (1, x.2.2.1)) h hw.1 (fun H locs rls cells slots rest k => lv_ldc2 hx hb hown (hts _ hw.2) hd k) K
  | getstatic idx =>
    obtain ⟨q, hq, h1, h2, h3⟩ := hw
    intro H locs rls cells slots g1 g2 g3 g4 g5 g6 g7 g8
    have hZ := hEX.2.1 q hq
    rw [h1] at hZ
    exact va_gets hx hb hZ (pm_toS h0 g4 g5 g7 g3) hown (hts _ h3) (fun x hx => hx) hd (K _ (pm_nx_inv h) H locs rls cells slots g1 g2 g3 g4 g5 ⟨g6.1, ok_c h2 g6.2.1, g6.2.2⟩ g7 g8)
  | iload_n k => obtain ⟨z, h1, h2⟩ := pm_ldi_inv h; exact pm_s_load h1 (Nat.zero_le _) h2 (fun H locs rls cells slots rest hl kk => lv_iload_n hx hb hd rfl hl kk) K
  | iload i => obtain ⟨z, h1, h2⟩ := pm_ldi_inv h; exact pm_s_load h1 (Nat.zero_le _) h2 (fun H locs rls cells slots rest hl kk => lv_iload hx hb hd hl kk) K
  | lload_n k => obtain ⟨z, h1, h2⟩ := pm_ldl_inv h; exact pm_s_load h1 (by show 1 ≤ 2; omega) h2 (fun H locs rls cells slots rest hl kk => lv_lload_n hx hb hd rfl hl kk) K
  | lload i => obtain ⟨z, h1, h2⟩ := pm_ldl_inv h; exact pm_s_load h1 (by show 1 ≤ 2; omega) h2 (fun H locs rls cells slots rest hl kk => lv_lload hx hb hd hl kk) K
  | aload_n k => obtain ⟨z, h1, h2⟩ := pm_lda_inv h; exact pm_s_load h1 (by show 2 ≤ 2; omega) h2 (fun H locs rls cells slots rest hl kk => lv_aload_n hx hb hd rfl hl kk) K
  | aload i => obtain ⟨z, h1, h2⟩ := pm_lda_inv h; exact pm_s_load h1 (by show 2 ≤ 2; omega) h2 (fun H locs rls cells slots rest hl kk => lv_aload hx hb hd hl kk) K
  | istore_n k => obtain ⟨z, st', ls', h1, h2, h3⟩ := pm_sti_inv h; exact pm_s_store hn h1 h2 h3 (fun H locs rls cells slots rest lv hl hi kk => lv_istore_n hx hb hd rfl hl hi rfl kk) K
  | istore i => obtain ⟨z, st', ls', h1, h2, h3⟩ := pm_sti_inv h; exact pm_s_store hn h1 h2 h3 (fun H locs rls cells slots rest lv hl hi kk => lv_istore hx hb hd hl hi rfl kk) K
  | astore_n k => obtain ⟨z, st', ls', h1, h2, h3⟩ := pm_sta_inv h; exact pm_s_store hn h1 h2 h3 (fun H locs rls cells slots rest lv hl hi kk => lv_astore_n hx hb hd rfl hl hi rfl kk) K
  | astore i => obtain ⟨z, st', ls', h1, h2, h3⟩ := pm_sta_inv h; exact pm_s_store hn h1 h2 h3 (fun H locs rls cells slots rest lv hl hi kk => lv_astore hx hb hd hl hi rfl kk) K
  | lstore_n k => exact pm_s_stl hn h (fun H locs rls cells slots rest lv z hl hi kk => lv_lstore_n hx hb hd rfl hl hi rfl kk) K
  | lstore i => exact pm_s_stl hn h (fun H locs rls cells slots rest lv z hl hi kk => lv_lstore hx hb hd hl hi rfl kk) K
  | iinc i n => exact pm_s_inc hx hb hn hd h K
  | dup =>
    match st, h with
    | (t, v) :: r, h =>
      have h' : (if t = 0 ∨ t = 2 then pm_nx (pc + 1) ls ((t, v) :: (t, v) :: r) σ else none) = some (.inl g') := h
      split at h'
      · next ht => exact pm_stk (fun H locs rls cells slots _ k => lv_dup hx hb hd (pm_dup1 ht) k) (fun hok => ok_c (ok1 hok).1 hok) (K _ (pm_nx_inv h'))
      · cases h'
  | dup2 =>
    match st, h with
    | (t, v) :: (t', w) :: r, h =>
      have h' : (if (t = 0 ∨ t = 2) ∧ (t' = 0 ∨ t' = 2) then pm_nx (pc + 1) ls ((t, v) :: (t', w) :: (t, v) :: (t', w) :: r) σ else none) = some (.inl g') := h
      split at h'
      · next ht => exact pm_stk (fun H locs rls cells slots _ k => lv_dup2_11 hx hb hd (pm_dup1 ht.1) (pm_dup1 ht.2) k) (fun hok => ok_c (ok2 hok).1 (ok_c (ok2 hok).2.1 hok)) (K _ (pm_nx_inv h'))
      · cases h'
  | pop =>
    match st, h with
    | (t, v) :: r, h =>
      have h' : (if t = 0 ∨ t = 2 then pm_nx (pc + 1) ls r σ else none) = some (.inl g') := h
      split at h'
      · next ht => exact pm_stk (fun H locs rls cells slots _ k => lv_pop hx hb hd (pm_dup1 ht) k) (fun hok => (ok1 hok).2) (K _ (pm_nx_inv h'))
      · cases h'
  | pop2 =>
    match st, h with
    | (1, v) :: r, h => exact pm_stk (fun H locs rls cells slots _ k => lv_pop2_2 hx hb hd rfl k) (fun hok => (ok1 hok).2) (K _ (pm_nx_inv h))
  | iadd => exact pm_s_i2 h (fun _ _ _ _ => ok_w32 _) (fun H locs rls cells slots y z rest hy hz k => lv_iadd hx hb hd (by rw [i32_add]; exact k)) K
  | isub => exact pm_s_i2 h (fun _ _ _ _ => ok_w32 _) (fun H locs rls cells slots y z rest hy hz k => lv_isub hx hb hd (by rw [i32_sub]; exact k)) K
  | imul => exact pm_s_i2 h (fun _ _ _ _ => ok_w32 _) (fun H locs rls cells slots y z rest hy hz k => lv_imul hx hb hd (by rw [i32_mul]; exact k)) K
  | iand => exact pm_s_i2 h (fun _ _ _ _ => ok_i32 _) (fun H locs rls cells slots y z rest hy hz k => lv_iand hx hb hd (by unfold pm_and at k; rw [i32_rt] at k; exact k)) K
  | ior => exact pm_s_i2 h (fun _ _ _ _ => ok_i32 _) (fun H locs rls cells slots y z rest hy hz k => lv_ior hx hb hd (by unfold pm_or at k; rw [i32_rt] at k; exact k)) K
  | ixor => exact pm_s_i2 h (fun _ _ _ _ => ok_i32 _) (fun H locs rls cells slots y z rest hy hz k => lv_ixor hx hb hd (by unfold pm_xor at k; rw [i32_rt] at k; exact k)) K
  | ishl => exact pm_s_i2 h (fun _ _ _ _ => ok_i32 _) (fun H locs rls cells slots y z rest hy hz k => lv_ishl hx hb hd (by unfold pm_shl at k; rw [i32_rt] at k; exact k)) K
  | ishr => exact pm_s_i2 h (fun _ _ _ _ => ok_i32 _) (fun H locs rls cells slots y z rest hy hz k => lv_ishr hx hb hd (by unfold pm_shr at k; rw [i32_rt] at k; exact k)) K
  | iushr => exact pm_s_i2 h (fun _ _ _ _ => ok_i32 _) (fun H locs rls cells slots y z rest hy hz k => lv_iushr hx hb hd rfl (by unfold pm_ush at k; rw [i32_rt] at k; exact k)) K
  | idiv => exact pm_s_d2 h (fun _ _ _ _ => ok_w32 _) (fun H locs rls cells slots y z rest hy hz hz0 k => lv_idiv hx hb hd (fun q => hz0 ((i32_eq hz ⟨by decide, by decide⟩).mp q)) (by rw [i32_div hy hz]; exact k)) K
  | irem => exact pm_s_d2 h (fun y z hy hz => tmod_in hy) (fun H locs rls cells slots y z rest hy hz hz0 k => lv_irem hx hb hd (fun q => hz0 ((i32_eq hz ⟨by decide, by decide⟩).mp q)) (by rw [i32_rem hy hz]; exact k)) K
  | ineg => exact pm_s_u h (fun _ _ => ok_w32 _) (fun H locs rls cells slots y rest hy k => lv_ineg hx hb hd (by rw [i32_neg]; exact k)) K
  | i2l => exact pm_s_u h (fun y hy => by have h1 : -2147483648 ≤ y ∧ y < 2147483648 := hy; show -9223372036854775808 ≤ y ∧ y < 9223372036854775808; omega) (fun H locs rls cells slots y rest hy k => lv_i2l hx hb hd (i32_i2l hy) k) K
  | l2i => exact pm_s_u h (fun _ _ => ok_w32 _) (fun H locs rls cells slots y rest hy k => lv_l2i hx hb hd (i64_l2i hy) k) K
  | i2b => exact pm_s_u h (fun y _ => by show -2147483648 ≤ w8 y ∧ w8 y < 2147483648; unfold w8; omega) (fun H locs rls cells slots y rest hy k => lv_i2b hx hb hd (i32_i2b hy) k) K
  | i2s => exact pm_s_u h (fun y _ => by show -2147483648 ≤ w16 y ∧ w16 y < 2147483648; unfold w16; omega) (fun H locs rls cells slots y rest hy k => lv_i2s hx hb hd (i32_i2s hy) k) K
  | i2c => exact pm_s_u h (fun y _ => by show -2147483648 ≤ y % 65536 ∧ y % 65536 < 2147483648; omega) (fun H locs rls cells slots y rest hy k => lv_i2c hx hb hd (i32_i2c hy) k) K
  | ladd => exact pm_s_l2 h (fun _ _ _ _ => ok_w64 _) (fun H locs rls cells slots y z rest hy hz k => lv_ladd hx hb hd (by rw [i64_add]; exact k)) K
  | lsub => exact pm_s_l2 h (fun _ _ _ _ => ok_w64 _) (fun H locs rls cells slots y z rest hy hz k => lv_lsub hx hb hd (by rw [i64_sub]; exact k)) K
  | lmul => exact pm_s_l2 h (fun _ _ _ _ => ok_w64 _) (fun H locs rls cells slots y z rest hy hz k => lv_lmul hx hb hd (by rw [i64_mul]; exact k)) K
  | land => exact pm_s_l2 h (fun _ _ _ _ => ok_i64 _) (fun H locs rls cells slots y z rest hy hz k => lv_land hx hb hd (by unfold pm_lnd at k; rw [i64_rt] at k; exact k)) K
  | lor => exact pm_s_l2 h (fun _ _ _ _ => ok_i64 _) (fun H locs rls cells slots y z rest hy hz k => lv_lor hx hb hd (by unfold pm_lor at k; rw [i64_rt] at k; exact k)) K
  | lshl =>
    match st, h with
    | (0, y) :: (1, z) :: r, h =>
      refine pm_stk (fun H locs rls cells slots _ k => lv_lshl hx hb hd rfl ?_) (fun hok => ok_c (ok_i64 _) (ok2 hok).2.2) (K _ (pm_nx_inv h))
      have k' : W p l e R s m args below meth c H locs cells slots Q (F0 m (pc + 1) rls (.long (Int64.ofInt (pm_lsh z y)) :: r.map (pm_val b ad))) := k
      unfold pm_lsh at k'
      rw [i64_rt] at k'
      exact k'
  | lcmp =>
    match st, h with
    | (1, y) :: (1, z) :: r, h =>
      refine pm_stk (fun H locs rls cells slots hok k => W.lcmp hx hb hd ?_) (fun hok => ok_c ?_ (ok2 hok).2.2) (K _ (pm_nx_inv h))
      · have e1 : lg_cmp (Int64.ofInt z) (Int64.ofInt y) = Int32.ofInt (if y < z then 1 else if z = y then 0 else -1) := by
          have q1 := i64_ltz (ok2 hok).1 (ok2 hok).2.1
          have q2 := i64_eq (ok2 hok).2.1 (ok2 hok).1
          unfold lg_cmp
          by_cases c1 : y < z
          · rw [if_pos (q1.mpr c1), if_pos c1]; rfl
          · rw [if_neg (fun q => c1 (q1.mp q)), if_neg c1]
            by_cases c2 : z = y
            · rw [if_pos (q2.mpr c2), if_pos c2]; rfl
            · rw [if_neg (fun q => c2 (q2.mp q)), if_neg c2]; rfl
        have k' : W p l e R s m args below meth c H locs cells slots Q (F0 m (pc + 1) rls (.int (Int32.ofInt (if y < z then 1 else if z = y then 0 else -1)) :: r.map (pm_val b ad))) := k
        rw [← e1] at k'
        exact k'
      · show -2147483648 ≤ (if y < z then (1 : Int) else if z = y then 0 else -1) ∧ (if y < z then (1 : Int) else if z = y then 0 else -1) < 2147483648
        split
        · omega
        · split <;> omega
  | ifCond cnd off =>
    match st, h with
    | (0, z) :: r, h => exact pm_s_if hx hb hd hw (K _ (pm_nx_inv h))
  | if_icmp cnd off =>
    match st, h with
    | (0, y) :: (0, z) :: r, h => exact pm_s_icmp hx hb hd hw (K _ (pm_nx_inv h))
  | goto off =>
    have hto : (pc : Int) + off = ((pm_tg pc off : Nat) : Int) := by
      have h1 : 0 ≤ (pc : Int) + off := hw
      unfold pm_tg
      omega
    exact pm_stk (fun H locs rls cells slots _ k => lv_goto hx hb hd hto k) (fun hok => hok) (K _ (pm_nx_inv h))
  | tableswitch dflt lo hi offs =>
    match st, h with
    | (0, z) :: r, h =>
      have h' : (match pm_tsw dflt lo hi offs z with
        | some o => pm_nx (pm_tg pc o) ls r σ
        | none => none) = some (.inl g') := h
      split at h'
      · next o ho => exact pm_s_tsw hx hb hd ho (by
          rcases pm_tsw_mem ho with rfl | h9
          · exact hw.1
          · exact hw.2 o h9) (K _ (pm_nx_inv h'))
      · cases h'
  | lookupswitch dflt ps =>
    match st, h with
    | (0, z) :: r, h => exact pm_s_lsw hx hb hd hw.1 (by
        rcases pm_lsw_mem (dflt := dflt) (z := z) (l := ps.toList) with h9 | ⟨q, h8, h9⟩
        · rw [h9]; exact hw.2.1
        · rw [h9]; exact hw.2.2 q h8) (K _ (pm_nx_inv h))
  | getfield idx =>
    rcases hw with ⟨h1, h2⟩ | ⟨h1, r, h2, h3, h4⟩
    · have h' : (match x.1 with
        | 100 => pm_getS x.2.1 pc ls st σ
        | _ => pm_getf x.1 x.2.1 (fc x.1 x.2.1) pc ls st σ) = some (.inl g') := h
      rw [h1] at h'
      exact pm_s_getS hx hb hts hown h0 hEX h2 hd h' kk
    · have h' : (match x.1 with
        | 100 => pm_getS x.2.1 pc ls st σ
        | _ => pm_getf x.1 x.2.1 (fc x.1 x.2.1) pc ls st σ) = some (.inl g') := h
      split at h'
      · next hh => exact absurd hh h1
      · exact pm_s_getf hx hb hts hown hK hC h2 h3 h4 hd h' K
  | putfield idx =>
    obtain ⟨r, h1, h2, h3, h4⟩ := hw
    exact pm_s_putf hx hb hts hown hK hC h0 h1 h2 h3 (by rw [hnm]; exact h4) hd h K
  | iaload => exact pm_s_iald hx hb hK h0 hEX.1 hd h K
  | laload => exact pm_s_lald hx hb hK hEX.1 hd h K
  | baload => exact pm_s_bald hx hb hK h0 hEX.1 hd h K
  | aaload => exact pm_s_aald hx hb hK hd h K
  | iastore => exact pm_s_iast hx hb hK h0 hd h K
  | lastore => exact pm_s_last hx hb hK h0 hd h K
  | bastore => exact pm_s_bast hx hb hK h0 hd h K
  | arraylength => exact pm_s_alen hx hb hK h0 hEX.1 hd h K
  | newarray ty =>
    cases ty with
    | int => exact pm_s_newa (t := 0) (by omega) hx hb hts hK hw hd h RM K
    | long => exact pm_s_newa (t := 1) (by omega) hx hb hts hK hw hd h RM K
    | boolean => exact pm_s_newa (t := 2) (by omega) hx hb hts hK hw hd h RM K
    | _ => exact absurd h (by intro q; cases q)
  | new idx =>
    obtain ⟨r, h1, h2, h3, h4, h5⟩ := hw
    have h' : pm_newo x.1 x.2.1 (fun k => if fc x.1 k = 2 then -1 else 0) pc ls st σ = some (.inl g') := h
    rw [h2] at h'
    exact pm_s_newo hx hb hts hown hK hC h1 h3 h4 h5 hd h' RM K
  | multianewarray idx dims =>
    have h' : (if dims = 2 then pm_mna x.1 pc ls st σ else none) = some (.inl g') := h
    split at h'
    · next hdm =>
      subst hdm
      exact pm_s_mna hw.1 hx hb hts hown hK hEX hw.2.1 hw.2.2 hd h' RM K
    · cases h'
  | invokestatic idx =>
    have h' : (match x.2.2.1 with
      | 1 => pm_copy pc ls st σ
      | 2 => pm_m2 pm_max pc ls st σ
      | 3 => pm_m2 pm_min pc ls st σ
      | 4 => pm_m1 pm_abs pc ls st σ
      | _ => pm_callS (pm_E T X fc d) x.1 x.2.1 pc ls st σ) = some (.inl g') := h
    have m2 : ∀ {f : Int → Int → Int}, pm_m2 f pc ls st σ = some (.inl g') → (∀ x y, pm_ok (0, x) → pm_ok (0, y) → pm_ok (0, f x y)) →
        (∀ (H : Heap) (locs : List Loc) (rls : Array Slot) (cells slots : Nat) (x y : Int) (rest : List Value), c.maxLocals = rls.size → (rest.map fun v => v.category).sum ≤ 8 → cells ≤ R.cells → slots ≤ R.slots → pm_ok (0, x) → pm_ok (0, y) → W p l e R s m args below meth c H locs cells slots Q (F0 m (pc + 3) rls (.int (Int32.ofInt (f x y)) :: rest)) → W p l e R s m args below meth c H locs cells slots Q (F0 m pc rls (.int (Int32.ofInt y) :: .int (Int32.ofInt x) :: rest))) → pm_W p l e R s m args below meth c Q b ad ca fc D nL n0 s0 (pc, ls, st, σ) := by
      intro f hm hok row
      obtain ⟨y, z, r, rfl, hf, ge⟩ := pm_m2_inv hm
      intro H locs rls cells slots g1 g2 g3 g4 g5 g6 g7 g8
      have r1 := hroom.1
      have r2 := hroom.2
      cases ge
      have q7 : cells + n0 = σ.1.length := g7
      have q8 : slots + s0 = pm_sl σ.1 := g8
      have r1 : σ.1.length ≤ R.cells + n0 := r1
      have r2 : pm_sl σ.1 ≤ R.slots + s0 := r2
      exact row H locs rls cells slots y z _ (hml.trans g1.1.symm) (pm_fit_le b ad 4 r hf) (by omega) (by omega) (ok2 g6.2.1).2.1 (ok2 g6.2.1).1 (kk H locs rls cells slots g1 g2 g3 g4 g5 ⟨g6.1, ok_c (hok _ _ (ok2 g6.2.1).2.1 (ok2 g6.2.1).1) (ok2 g6.2.1).2.2, g6.2.2⟩ g7 g8)
    rcases hw with ⟨h1, h2, h3, h4, h5⟩ | ⟨h1, h2, h3, h4, h5⟩ | ⟨h1, h2, h3, h4, h5⟩ | ⟨h1, h2, h3, h4, h5⟩ | ⟨h1, M, h2, h3, h4, h5⟩
    · rw [h1] at h'
      exact pm_s_copy F0' h2 h3 h4 h5 hd h' kk
    · rw [h1] at h'
      refine m2 h' (fun y z hy hz => by unfold pm_max; split; exact hz; exact hy) (fun H locs rls cells slots y z rest q1 q2 q3 q4 hy hz k => va_mmax hx hb q1 hown (hts _ h2) (hts _ h3) (hts _ h4) (hts _ h5) (by omega) (by omega) q3 q4 hd ?_)
      have e1 : (if Int32.ofInt y < Int32.ofInt z then Int32.ofInt z else Int32.ofInt y) = Int32.ofInt (pm_max y z) := by
        unfold pm_max
        by_cases hc : y < z
        · rw [if_pos hc, if_pos ((i32_ltz hy hz).mpr hc)]
        · rw [if_neg hc, if_neg (fun q => hc ((i32_ltz hy hz).mp q))]
      rw [e1]
      exact k
    · rw [h1] at h'
      refine m2 h' (fun y z hy hz => by unfold pm_min; split; exact hz; exact hy) (fun H locs rls cells slots y z rest q1 q2 q3 q4 hy hz k => va_mmin hx hb q1 hown (hts _ h2) (hts _ h3) (hts _ h4) (hts _ h5) (by omega) (by omega) q3 q4 hd ?_)
      have e1 : (if Int32.ofInt z < Int32.ofInt y then Int32.ofInt z else Int32.ofInt y) = Int32.ofInt (pm_min y z) := by
        unfold pm_min
        by_cases hc : z < y
        · rw [if_pos hc, if_pos ((i32_ltz hz hy).mpr hc)]
        · rw [if_neg hc, if_neg (fun q => hc ((i32_ltz hz hy).mp q))]
      rw [e1]
      exact k
    · rw [h1] at h'
      obtain ⟨y, r, rfl, hf, ge⟩ := pm_m1_inv h'
      intro H locs rls cells slots g1 g2 g3 g4 g5 g6 g7 g8
      have r1 := hroom.1
      have r2 := hroom.2
      cases ge
      have q7 : cells + n0 = σ.1.length := g7
      have q8 : slots + s0 = pm_sl σ.1 := g8
      have r1 : σ.1.length ≤ R.cells + n0 := r1
      have r2 : pm_sl σ.1 ≤ R.slots + s0 := r2
      have hy := (ok1 g6.2.1).1
      have ho : pm_ok (0, pm_abs y) := by
        unfold pm_abs
        split
        · exact hy
        · exact ok_w32 _
      have e0 := pm_fit_le b ad 4 r hf
      refine va_mabs hx hb (hml.trans g1.1.symm) hown (hts _ h2) (hts _ h3) (hts _ h4) (hts _ h5) (by omega) (by omega) (by omega) (by omega) hd ?_
      have e1 : (if 0 ≤ Int32.ofInt y then Int32.ofInt y else 0 - Int32.ofInt y) = Int32.ofInt (pm_abs y) := by
        have z0 : (-2147483648 : Int) ≤ 0 ∧ (0 : Int) < 2147483648 := by decide
        have q5 : (0 : Int32) ≤ Int32.ofInt y ↔ 0 ≤ y := i32_lez z0 hy
        unfold pm_abs
        by_cases hc : 0 ≤ y
        · rw [if_pos hc, if_pos (q5.mpr hc)]
        · rw [if_neg hc, if_neg (fun q => hc (q5.mp q))]
          exact i32_sub 0 y
      rw [e1]
      exact kk H locs rls cells slots g1 g2 g3 g4 g5 ⟨g6.1, ok_c ho (ok1 g6.2.1).2, g6.2.2⟩ g7 g8
    · rw [h1] at h'
      exact pm_s_callS F0' h2 h3 h4 h5 hd h' hroom kk
  | invokevirtual idx =>
    obtain ⟨M, h1, h2, h3, h4, h5, h6⟩ := hw
    exact pm_s_callV F0' h1 h2 h3 h4 h5 (by
      rcases h6 with ⟨h7, h8⟩ | h7
      · exact Or.inl ⟨by rw [h7]; rfl, h8⟩
      · exact Or.inr h7) hd h hroom kk
  | invokespecial idx =>
    have h' : (match x.2.2.1 with
      | 1 => pm_obj pc ls st σ
      | _ => pm_callI (pm_E T X fc d) x.1 x.2.1 pc ls st σ) = some (.inl g') := h
    rcases hw with ⟨h1, h2, h3, h4⟩ | ⟨h1, M, h2, h3, h4, h5, h6, h7⟩
    · rw [h1] at h'
      obtain ⟨a, r, rfl, hf, ge⟩ := pm_obj_inv h'
      cases ge
      intro H locs rls cells slots g1 g2 g3 g4 g5 g6 g7 g8
      exact W.objInit hx hb hown (hts _ h2) (hts _ h3) (hts _ h4) rfl (g1.1.trans hml.symm) rfl hd (by omega) (Nat.le_trans (Nat.add_le_add_right (pm_room (b := b) (ad := ad) hf) 12) (by omega)) (kk H locs rls cells slots g1 g2 g3 g4 g5 ⟨g6.1, (ok1 g6.2.1).2, g6.2.2⟩ g7 g8)
    · rw [h1] at h'
      exact pm_s_callI F0' h2 h3 h4 h5 h6 h7 hd h' hroom kk
  | ireturn =>
    have h' : pm_ret 0 x.1 st σ = some (.inl g') := h
    unfold pm_ret at h'
    split at h'
    · split at h' <;> cases h'
    · cases h'
  | lreturn =>
    have h' : pm_ret 1 0 st σ = some (.inl g') := h
    unfold pm_ret at h'
    split at h'
    · split at h' <;> cases h'
    · cases h'
  | areturn =>
    have h' : pm_ret 2 0 st σ = some (.inl g') := h
    unfold pm_ret at h'
    split at h'
    · split at h' <;> cases h'
    · cases h'
  | return_ =>
    match st, h with
    | [], h => cases h
  | _ => exact absurd h (by intro q; cases q)
/-- a table of instructions, and what stands behind each -/
def pm_okC (T : List pm_M) (own nm : String) (ret : Option FieldType) (cc : ByteArray) (C : pm_C) : Prop := ∀ pc ins x, pm_fetch C pc = some (ins, x) → decode cc pc = .ok (ins, pm_len ins x) ∧ pm_wd T own nm ret pc ins x
theorem pm_put_len {l l' : List pm_V} {i : Nat} {v : pm_V} (h : pm_put l i v = some l') : l'.length = l.length := by
  obtain ⟨-, -, rfl⟩ := pm_put_inv h
  rw [pm_set_eq, List.length_set]
theorem pm_exec_len {orc : pm_O} {ins : Instr} {g' : pm_F} (h : pm_exec orc X fc ins x pc ls st σ = some (.inl g')) : g'.2.1.length = ls.length := by
  have ex : ∀ {g : pm_F ⊕ pm_R}, pm_exec orc X fc ins x pc ls st σ = some g → (∀ g', g = .inl g' → g'.2.1.length = ls.length) := by
    intro g h
    have nx : ∀ {pc' : Nat} {st' : List pm_V} {σ' : pm_S}, pm_nx pc' ls st' σ' = some g → (∀ g', g = .inl g' → g'.2.1.length = ls.length) := fun h g' hg => by rw [pm_nx_inv h] at hg; cases hg; rfl
    have inl : ∀ {pc' : Nat} {st' : List pm_V} {σ' : pm_S}, g = .inl (pc', ls, st', σ') → (∀ g', g = .inl g' → g'.2.1.length = ls.length) := fun h g' hg => by rw [h] at hg; cases hg; rfl
    have pu : ∀ {pc' i : Nat} {v : pm_V} {ls' st' : List pm_V} {σ' : pm_S}, pm_put ls i v = some ls' → g = .inl (pc', ls', st', σ') → (∀ g', g = .inl g' → g'.2.1.length = ls.length) := fun hp h g' hg => by rw [h] at hg; cases hg; exact pm_put_len hp
    have pu2 : ∀ {pc' i j : Nat} {v w : pm_V} {st' : List pm_V} {σ' : pm_S}, g = .inl (pc', pm_set (pm_set ls i v) j w, st', σ') → (∀ g', g = .inl g' → g'.2.1.length = ls.length) := fun h g' hg => by rw [h] at hg; cases hg; show (pm_set (pm_set ls _ _) _ _).length = _; rw [pm_set_eq, pm_set_eq, List.length_set, List.length_set]
    have ca : ∀ {y : Nat} {as rest : List pm_V}, pm_call orc y as rest pc ls σ = some g → (∀ g', g = .inl g' → g'.2.1.length = ls.length) := fun h => by obtain ⟨rv, σ', _, _, h2⟩ := pm_call_inv h; exact inl h2
    have ret : ∀ {t a : Nat}, pm_ret t a st σ = some g → (∀ g', g = .inl g' → g'.2.1.length = ls.length) := fun h g' hg => by
      unfold pm_ret at h
      split at h
      · split at h
        · cases h; cases hg
        · cases h
      · cases h
    unfold pm_exec at h
    split at h
    all_goals first
      | exact nx h
      | exact (let ⟨_, _, h2⟩ := pm_ldi_inv h; inl h2)
      | exact (let ⟨_, _, h2⟩ := pm_ldl_inv h; inl h2)
      | exact (let ⟨_, _, h2⟩ := pm_lda_inv h; inl h2)
      | exact (let ⟨_, _, _, h1, _, h2⟩ := pm_sti_inv h; pu h1 h2)
      | exact (let ⟨_, _, _, h1, _, h2⟩ := pm_sta_inv h; pu h1 h2)
      | exact (let ⟨_, _, _, _, _, h2⟩ := pm_stl_inv h; pu2 h2)
      | exact (let ⟨_, _, _, h1, h2⟩ := pm_inc_inv h; pu h1 h2)
      | exact (let ⟨_, _, _, _, h2⟩ := pm_i2_inv h; inl h2)
      | exact (let ⟨_, _, _, _, _, h2⟩ := pm_d2_inv h; inl h2)
      | exact (let ⟨_, _, _, _, h2⟩ := pm_l2_inv h; inl h2)
      | exact (let ⟨_, _, _, h2⟩ := pm_u_inv h; inl h2)
      | exact (let ⟨_, _, _, _, _, _, _, _, _, h2⟩ := pm_aload_inv h; inl h2)
      | exact (let ⟨_, _, _, _, _, _, _, _, _, h2⟩ := pm_baload_inv h; inl h2)
      | exact (let ⟨_, _, _, _, _, _, _, _, _, _, h2⟩ := pm_aald_inv h; inl h2)
      | exact (let ⟨_, _, _, _, _, _, _, _, _, _, h2⟩ := pm_astore_inv h; inl h2)
      | exact (let ⟨_, _, _, _, _, _, _, h2⟩ := pm_alen_inv h; inl h2)
      | exact (let ⟨_, _, _, _, _, _, _, _, h2⟩ := pm_putf_inv h; inl h2)
      | exact (let ⟨_, h2⟩ := pm_newo_inv h; inl h2)
      | exact ret h
      | skip
    all_goals first
      | (split at h <;> first
          | (split at h <;> first | exact nx h | cases h)
          | exact nx h
          | exact (let ⟨_, _, _, _, _, _, h2⟩ := pm_newa_inv h; inl h2)
          | (cases h; intro g' hg; cases hg)
          | skip)
      | skip
    all_goals first
      | exact (let ⟨_, _, _, _, _, _, h2⟩ := pm_getf_inv h; inl h2)
      | exact (let ⟨_, _, _, _, _, _, _, h2⟩ := pm_getS_inv h; inl h2)
      | exact (let ⟨_, _, _, _, _, _, _, _, _, h2⟩ := pm_mna_inv h; inl h2)
      | exact (let ⟨_, _, _, _, _, _, _, _, _, _, _, _, _, _, _, _, _, _, _, h2⟩ := pm_copy_inv h; inl h2)
      | exact (let ⟨_, _, _, h2⟩ := pm_callS_inv h; ca h2)
      | exact (let ⟨_, _, _, _, h2⟩ := pm_callV_inv h; ca h2)
      | exact (let ⟨_, _, _, _, h2⟩ := pm_callI_inv h; ca h2)
      | exact (let ⟨_, _, _, _, h2⟩ := pm_obj_inv h; inl h2)
      | exact (let ⟨_, _, _, _, _, h2⟩ := pm_m2_inv h; inl h2)
      | exact (let ⟨_, _, _, _, h2⟩ := pm_m1_inv h; inl h2)
      | cases h
  exact ex h g' rfl
/-- a run: from any of its configurations, if its end is good -/
theorem pm_s_run {C : pm_C} {rv : Option pm_V} {σf : pm_S} (F : pm_Fx p l R s m args meth c b ad ca fc D nL n0 X T d cc own nm) (hC : pm_okC T own nm ret cc C) (hr1 : σf.1.length ≤ R.cells + n0) (hr2 : pm_sl σf.1 ≤ R.slots + s0)
    (hend : ∀ g : pm_F, pm_step (pm_E T X fc d) X fc C g = some (.inr (rv, σf)) → pm_W p l e R s m args below meth c Q b ad ca fc D nL n0 s0 g) : ∀ (n : Nat) (g : pm_F), g.2.1.length ≤ nL → pm_run (pm_E T X fc d) X fc C n g = some (rv, σf) → pm_W p l e R s m args below meth c Q b ad ca fc D nL n0 s0 g
  | 0, g, _, h => by cases h
  | n + 1, g, hn, h => by
    rw [pm_run] at h
    cases hs : pm_step (pm_E T X fc d) X fc C g with
    | none => rw [hs] at h; cases h
    | some q =>
      rw [hs] at h
      cases q with
      | inl g' =>
        have hs' := hs
        unfold pm_step at hs'
        split at hs'
        · next ins x' hf =>
          obtain ⟨h1, h2⟩ := hC _ _ _ hf
          have hgr := pm_run_gr (pm_E_gr (T := T) (X := X) (fc := fc) d) h
          exact pm_s_step (ls := g.2.1) (st := g.2.2.1) (σ := g.2.2.2) F hn h1 h2 hs' ⟨Nat.le_trans hgr.1 hr1, Nat.le_trans hgr.2 hr2⟩ (pm_s_run F hC hr1 hr2 hend n g' (by rw [pm_exec_len hs']; exact hn) h)
        · cases hs'
      | inr r =>
        cases h
        exact hend g hs
theorem pm_step_inv {orc : pm_O} {C : pm_C} {g : pm_F} {q : pm_F ⊕ pm_R} (h : pm_step orc X fc C g = some q) : ∃ ins x, pm_fetch C g.1 = some (ins, x) ∧ pm_exec orc X fc ins x g.1 g.2.1 g.2.2.1 g.2.2.2 = some q := by
  unfold pm_step at h
  split at h
  · next ins x hf => exact ⟨ins, x, hf, h⟩
  · cases h
def pm_isret : Instr → Bool
  | .ireturn => true
  | .lreturn => true
  | .areturn => true
  | .return_ => true
  | _ => false
theorem pm_exec_nr {orc : pm_O} {ins : Instr} {g : pm_F ⊕ pm_R} (h : pm_exec orc X fc ins x pc ls st σ = some g) (hr : pm_isret ins = false) : ∃ g', g = .inl g' := by
  have inl : ∀ {g' : pm_F}, g = .inl g' → (∃ g', g = .inl g') := fun h => ⟨_, h⟩
  have nx : ∀ {pc' : Nat} {ls' st' : List pm_V} {σ' : pm_S}, pm_nx pc' ls' st' σ' = some g → (∃ g', g = .inl g') := fun h => ⟨_, pm_nx_inv h⟩
  have ca : ∀ {y : Nat} {as rest : List pm_V}, pm_call orc y as rest pc ls σ = some g → (∃ g', g = .inl g') := fun h => by obtain ⟨rv, σ', _, _, h2⟩ := pm_call_inv h; exact ⟨_, h2⟩
  unfold pm_exec at h
  split at h
  all_goals first
    | exact nx h
    | exact Bool.noConfusion hr
    | exact (let ⟨_, _, h2⟩ := pm_ldi_inv h; inl h2)
    | exact (let ⟨_, _, h2⟩ := pm_ldl_inv h; inl h2)
    | exact (let ⟨_, _, h2⟩ := pm_lda_inv h; inl h2)
    | exact (let ⟨_, _, _, h1, _, h2⟩ := pm_sti_inv h; inl h2)
    | exact (let ⟨_, _, _, h1, _, h2⟩ := pm_sta_inv h; inl h2)
    | exact (let ⟨_, _, _, _, _, h2⟩ := pm_stl_inv h; inl h2)
    | exact (let ⟨_, _, _, h1, h2⟩ := pm_inc_inv h; inl h2)
    | exact (let ⟨_, _, _, _, h2⟩ := pm_i2_inv h; inl h2)
    | exact (let ⟨_, _, _, _, _, h2⟩ := pm_d2_inv h; inl h2)
    | exact (let ⟨_, _, _, _, h2⟩ := pm_l2_inv h; inl h2)
    | exact (let ⟨_, _, _, h2⟩ := pm_u_inv h; inl h2)
    | exact (let ⟨_, _, _, _, _, _, _, _, _, h2⟩ := pm_aload_inv h; inl h2)
    | exact (let ⟨_, _, _, _, _, _, _, _, _, h2⟩ := pm_baload_inv h; inl h2)
    | exact (let ⟨_, _, _, _, _, _, _, _, _, _, h2⟩ := pm_aald_inv h; inl h2)
    | exact (let ⟨_, _, _, _, _, _, _, _, _, _, h2⟩ := pm_astore_inv h; inl h2)
    | exact (let ⟨_, _, _, _, _, _, _, h2⟩ := pm_alen_inv h; inl h2)
    | exact (let ⟨_, _, _, _, _, _, _, _, h2⟩ := pm_putf_inv h; inl h2)
    | exact (let ⟨_, h2⟩ := pm_newo_inv h; inl h2)
    | skip
  all_goals first
    | (split at h <;> first
        | (split at h <;> first | exact nx h | cases h)
        | exact nx h
        | exact (let ⟨_, _, _, _, _, _, h2⟩ := pm_newa_inv h; inl h2)
        | skip)
    | skip
  all_goals first
    | exact (let ⟨_, _, _, _, _, _, h2⟩ := pm_getf_inv h; inl h2)
    | exact (let ⟨_, _, _, _, _, _, _, h2⟩ := pm_getS_inv h; inl h2)
    | exact (let ⟨_, _, _, _, _, _, _, _, _, h2⟩ := pm_mna_inv h; inl h2)
    | exact (let ⟨_, _, _, _, _, _, _, _, _, _, _, _, _, _, _, _, _, _, _, h2⟩ := pm_copy_inv h; inl h2)
    | exact (let ⟨_, _, _, h2⟩ := pm_callS_inv h; ca h2)
    | exact (let ⟨_, _, _, _, h2⟩ := pm_callV_inv h; ca h2)
    | exact (let ⟨_, _, _, _, h2⟩ := pm_callI_inv h; ca h2)
    | exact (let ⟨_, _, _, _, h2⟩ := pm_obj_inv h; inl h2)
    | exact (let ⟨_, _, _, _, _, h2⟩ := pm_m2_inv h; inl h2)
    | exact (let ⟨_, _, _, _, h2⟩ := pm_m1_inv h; inl h2)
    | cases h
/-- the end of a method that is called -/
theorem pm_s_ret {C : pm_C} {rv : Option pm_V} {σf : pm_S} {g : pm_F} (hx : p.tables.exec = Jvm.exec) (hb : c.code = cc) (hret : meth.sig.returnType = ret) (hlocks : meth.locks = false) (hC : pm_okC T own nm ret cc C) (hs : pm_step (pm_E T X fc d) X fc C g = some (.inr (rv, σf))) (hsl : s0 ≤ pm_sl σf.1) :
    pm_W p l e R s m args below meth c (MQ below (pm_Qc b ad ca fc D rv σf) args s (σf.1.length - n0) (pm_sl σf.1 - s0) (fun q => b ≤ q)) b ad ca fc D nL n0 s0 g := by
  obtain ⟨ins, x, hf, hs⟩ := pm_step_inv hs
  obtain ⟨hd, hw⟩ := hC _ _ _ hf
  have hg : g.2.2.2 = σf := by
    have := pm_exec_gr (pm_E_gr (T := T) (X := X) (fc := fc) d) hs
    exact this.symm
  intro H locs rls cells slots h1 h2 h3 h4 h5 h6 h7 h8
  have hc1 : cells = σf.1.length - n0 := by rw [hg] at h7; omega
  have hc2 : slots = pm_sl σf.1 - s0 := by rw [hg] at h8; omega
  rw [hg] at h2
  have hmok : pm_mok fc σf := by rw [← hg]; exact h6.2.2
  have q : ∀ (v : Option Value), v = rv.map (pm_val b ad) → (∀ w, rv = some w → pm_ok w) → ∀ t : State, t.heap = H → s.WarmedH t.vm → pm_Qc b ad ca fc D rv σf args s (.returned v) t := fun v hv ho t ht _ => ⟨by rw [hv], by rw [ht]; exact h2, fun q hq => by rw [ht]; exact h4 q hq, ho, hmok⟩
  rw [← hc1, ← hc2]
  have iret : ∀ {t a : Nat}, pm_ret t a g.2.2.1 g.2.2.2 = some (.inr (rv, σf)) → ∃ z, g.2.2.1 = [(t, z)] ∧ rv = some (t, z) ∧ (a = 1 → z = 0 ∨ z = 1) ∧ (a = 2 → -128 ≤ z ∧ z ≤ 127) ∧ (t = 2 → 0 ≤ z) := fun h => by
    unfold pm_ret at h
    split at h
    · next t0 z hst =>
      split at h
      · next hc =>
        cases h
        obtain ⟨rfl, hc⟩ := hc
        exact ⟨z, hst, rfl, hc⟩
      · cases h
    · cases h
  have okv : ∀ {w : pm_V}, g.2.2.1 = [w] → rv = some w → ∀ w', rv = some w' → pm_ok w' := fun hst hrv w' hw' => by
    rw [hrv] at hw'
    cases hw'
    exact h6.2.1 _ (by rw [hst]; simp)
  cases ins with
  | ireturn =>
    obtain ⟨z, z1, z2, z3, z4, -⟩ := iret (t := 0) (a := x.1) hs
    rw [z1]
    have hq := q (some (.int (Int32.ofInt z))) (by rw [z2]; rfl) (okv z1 z2)
    rcases hw with ⟨a1, a2⟩ | ⟨a1, a2⟩ | ⟨a1, a2⟩
    · exact W.iret hx hb (hret.trans a2) hq h5 hd hlocks
    · refine W.zret hx hb (hret.trans a2) ?_ hq h5 hd hlocks
      rcases z3 a1 with rfl | rfl <;> rfl
    · refine W.zret hx hb (hret.trans a2) ?_ hq h5 hd hlocks
      obtain ⟨b1, b2⟩ := z4 a1
      show Value.int ((Int32.ofInt z).toInt8.toInt32) = _
      rw [i32_i2b ⟨by omega, by omega⟩]
      congr 2
      unfold w8
      omega
  | lreturn =>
    obtain ⟨z, z1, z2, -⟩ := iret (t := 1) (a := 0) hs
    rw [z1]
    exact W.lret hx hb (hret.trans hw) (q (some (.long (Int64.ofInt z))) (by rw [z2]; rfl) (okv z1 z2)) h5 hd hlocks
  | areturn =>
    obtain ⟨z, z1, z2, -, -, z5⟩ := iret (t := 2) (a := 0) hs
    obtain ⟨n, hn⟩ := hw
    rw [z1]
    have z6 : 0 ≤ z := z5 rfl
    obtain ⟨k, rfl⟩ := Int.eq_ofNat_of_zero_le z6
    exact W.aret (rt := .object n) hx hb (hret.trans hn) (Or.inl ⟨n, rfl⟩) (Or.inr ⟨_, rfl⟩) (q (some (.ref (pm_ad b ad k))) (by rw [z2]; rfl) (okv z1 z2)) h5 hd hlocks
  | return_ =>
    have hs' : (match g.2.2.1 with
      | [] => some (.inr (none, g.2.2.2))
      | _ => none) = some (Sum.inr (rv, σf) : pm_F ⊕ pm_R) := hs
    split at hs'
    · next hst =>
      have hrv : rv = none := by cases hs'; rfl
      rw [hst]
      exact W.vret hx hb (hret.trans hw) (q none (by rw [hrv]; rfl) (fun w hw' => by rw [hrv] at hw'; cases hw')) h5 hd hlocks
    · cases hs'
  | _ => exact absurd (pm_exec_nr hs rfl) (by rintro ⟨g', hg'⟩; cases hg')
/-- every method of a table that stands: its answers are the machine's, at every depth -/
def pm_okT (T : List pm_M) : Prop := ∀ y M, pm_get T y = some M → pm_okC T M.1.cls M.1.name M.2.2.2.1 M.2.1 M.2.2.2.2
theorem pm_pad_len : ∀ (n : Nat) (l : List pm_V), (pm_pad n l).length = n
  | 0, _ => rfl
  | n + 1, [] => by simp [pm_pad, pm_pad_len n]
  | n + 1, _ :: l => by simp [pm_pad, pm_pad_len n]
theorem pm_lv_pad {vs : List pm_V} {n : Nat} (h : (pm_spr vs).length ≤ n) : lv_has ((lg_sl (vs.map (pm_val b ad)) ++ List.replicate (n - (lg_sl (vs.map (pm_val b ad))).length) Slot.unset).toArray) n (pm_lv b ad 0 (pm_pad n (pm_spr vs))) := by
  refine lv_more (lv_entry (vs.map (pm_val b ad)) (n := n) (by rw [pm_spr_len]; exact h)) (fun q hq => ?_)
  obtain ⟨j, v, h1, h2, rfl⟩ := (pm_lv_mem b ad 0 _ q).mp hq
  exact pm_spr_args b ad vs 0 j v (pm_get_pad n _ j v h1 h2) h2
theorem pm_ok_pad {vs : List pm_V} (h : ∀ v ∈ vs, pm_ok v) : ∀ (n : Nat), ∀ v ∈ pm_pad n (pm_spr vs), pm_ok v := by
  have h1 : ∀ v ∈ pm_spr vs, pm_ok v := by
    induction vs with
    | nil => intro v hv; cases hv
    | cons w vs ih =>
      obtain ⟨t, z⟩ := w
      by_cases ht : t = 1
      · subst ht
        intro v hv
        rcases List.mem_cons.mp hv with rfl | hv
        · exact h _ (by simp)
        rcases List.mem_cons.mp hv with rfl | hv
        · exact trivial
        · exact ih (fun v hv => h v (by simp [hv])) v hv
      · rw [pm_spr_ne t z vs ht]
        exact ok_c (h _ (by simp)) (ih (fun v hv => h v (by simp [hv])))
  generalize pm_spr vs = us at h1
  intro n
  induction n generalizing us with
  | zero => intro v hv; cases hv
  | succ n ih =>
    cases us with
    | nil => exact ok_c trivial (ih [] h1)
    | cons u us => exact ok_c (h1 u (by simp)) (ih us (fun v hv => h1 v (by simp [hv])))
theorem pm_sound (hl : ∀ y M, pm_get T y = some M → M.1.cls ≠ "") (hCL : pm_CL fc) (hT : pm_okT T) : ∀ d, pm_Snd l b ad ca fc D X T d
  | 0 => fun y n M as σ rv σ' _ _ h => by cases h
  | d + 1 => by
    intro y n M as σ rv σ' hM hg hE hok hmok
    have hE' := hE
    unfold pm_E at hE'
    rw [hM] at hE'
    simp only at hE'
    split at hE'
    · next hle =>
      obtain ⟨N, hN⟩ := pm_go_iff.mp hE'
      have hgr := pm_E_gr (d + 1) _ _ _ _ _ hE
      have hln : (pm_spr as).length ≤ M.2.2.1 := Nat.le_of_ble_eq_true hle
      refine Met.ofW (cc := M.2.1) (maxL := M.2.2.1) (ret := M.2.2.2.1) hg.1 rfl ?_
      intro p e s m args below meth c s₁ B hml hv
      obtain ⟨rfl, hsz, hP, hK, hEX⟩ := hv
      have hx := B.exec
      have hb := B.bytes
      have hts0 := atoms_spec (ws := Cond.code M.1 M.2.1 M.2.2.1 M.2.2.2.1 :: pm_U) B.pre
      have hts : ∀ w ∈ pm_U, w.before _ s = true := fun w hw => hts0 w (List.mem_cons_of_mem _ hw)
      have hown : s.vm.findClass M.1.cls = some m.cls := findClass_of_methodNamed B.named
      have hin : meth.name = M.1.name := (name_of_methodNamed B.named B.method).1
      have F : pm_Fx p l (pm_rm (d + 1) (σ'.1.length - σ.1.length) (pm_sl σ'.1 - pm_sl σ.1)) s m (as.map (pm_val b ad)).toArray meth c b ad ca fc D M.2.2.1 σ.1.length X T d M.2.1 M.1.cls M.1.name :=
        ⟨hx, hb, hml, hown, hts, hK, hEX, hCL, hsz, hin, Nat.le_refl _, by show 64 * d + 64 ≤ 64 * (d + 1); omega, pm_sound hl hCL hT d⟩
      have g1 := hgr.1
      have g2 := hgr.2
      have run := pm_s_run (p := p) (e := e) (below := below) (Q := MQ below (pm_Qc b ad ca fc D rv σ') (as.map (pm_val b ad)).toArray s (σ'.1.length - σ.1.length) (pm_sl σ'.1 - pm_sl σ.1) (fun q => b ≤ q)) (s0 := pm_sl σ.1) F (hT y M hM) (by show σ'.1.length ≤ σ'.1.length - σ.1.length + σ.1.length; omega) (by show pm_sl σ'.1 ≤ pm_sl σ'.1 - pm_sl σ.1 + pm_sl σ.1; omega)
        (fun g hg => pm_s_ret hx hb B.returns B.notSynchronized (hT y M hM) hg g2) N (0, pm_pad M.2.2.1 (pm_spr as), [], σ) (by show (pm_pad _ _).length ≤ _; rw [pm_pad_len]; exact Nat.le_refl _) hN
      rw [lg_entry_eq]
      exact run s.heap [] _ 0 0 (pm_lv_pad hln) hP hsz (fun q _ => rfl) (fun q hq => by cases hq) ⟨pm_ok_pad hok _, ⟨fun v hv => (by cases hv), hmok⟩⟩ (by show 0 + σ.1.length = σ.1.length; omega) (by show 0 + pm_sl σ.1 = pm_sl σ.1; omega)
    · cases hE'
end PMT
