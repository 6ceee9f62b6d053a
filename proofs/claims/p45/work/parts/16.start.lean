/-! FROM THE LAW'S ENTRY: the classes, the statics, the texts, the script; then one run of the pure machine is the claim -/
theorem pm_CL_fc : pm_CL pm_fc := by
  intro ci r h
  match ci, h with
  | 0, h => cases h; exact ⟨wL_0, nmX0, tyX0, tyX0_ok, by decide +kernel⟩
  | 1, h => cases h; exact ⟨wL_1, nmX1, tyX1, tyX1_ok, by decide +kernel⟩
  | 2, h => cases h; exact ⟨wL_2, nmX2, tyX2, tyX2_ok, by decide +kernel⟩
  | 3, h => cases h; exact ⟨wL_3, nmX3, tyX3, tyX3_ok, by decide +kernel⟩
  | 4, h => cases h; exact ⟨wL_4, nmX4, tyX4, tyX4_ok, by decide +kernel⟩
  | 5, h => cases h; exact ⟨wL_5, nmX5, tyX5, tyX5_ok, by decide +kernel⟩
  | 6, h => cases h; exact ⟨wL_6, nmX8, tyX8, tyX8_ok, by decide +kernel⟩
  | 7, h => cases h; exact ⟨wL_7, nmX9, tyX9, tyX9_ok, by decide +kernel⟩
  | 8, h => cases h; exact ⟨wL_8, nmX10, tyX10, tyX10_ok, by decide +kernel⟩
  | 9, h => cases h; exact ⟨wL_9, nmX11, tyX11, tyX11_ok, by decide +kernel⟩
  | 10, h => cases h; exact ⟨wL_10, nmX12, tyX12, tyX12_ok, by decide +kernel⟩
  | n + 11, h => simp [vwCl] at h
theorem pm_U_in : ∀ w ∈ pm_U, w ∈ lw_tbl := fun _ h => (List.mem_filter.mp h).1
theorem pm_KN {s : State} {args : Array Value} (hts : ∀ w ∈ lw_tbl, w.before args s = true) : ∃ (D : va_G) (ca : Nat → ClassId), va_K D vwCl (pm_tys ca) s := by
  have h1 : ∀ k : Nat, ∃ q : ClassId × (Nat → Nat), ∀ r : vw_C, vwCl[k]? = some r → u_Kn s r.1 r.2.1 r.2.2 q.1 q.2 := by
    intro k
    cases hk : vwCl[k]? with
    | none => exact ⟨(0, fun _ => 0), fun r h => by cases h⟩
    | some r =>
      have hin : ∀ w ∈ u_ws r.1 r.2.1 r.2.2, w ∈ lw_tbl := fun w hw => pm_U_in w ((pm_CL_fc k r hk).1 w hw)
      have hi : Cond.instantiable r.1 r.2.2 ∈ lw_tbl := by
        match k, hk with
        | 0, h => cases h; exact wI_0
        | 1, h => cases h; exact wI_1
        | 2, h => cases h; exact wI_2
        | 3, h => cases h; exact wI_3
        | 4, h => cases h; exact wI_4
        | 5, h => cases h; exact wI_5
        | 6, h => cases h; exact wI_6
        | 7, h => cases h; exact wI_7
        | 8, h => cases h; exact wI_8
        | 9, h => cases h; exact wI_9
        | 10, h => cases h; exact wI_10
        | n + 11, h => simp [vwCl] at h
      obtain ⟨c, iS, h⟩ := u_known (C := r.1) (T := r.2.1) (N := r.2.2) (n := r.2.2) hts hin (hts _ hi)
      exact ⟨(c, iS), fun r' hr' => by cases hr'; exact h⟩
  have pr : ∀ ty : FieldType, Cond.arrayClass ty ∈ lw_tbl → ∃ c : ClassId, ArrOfT s c ty ∧ s.vm.findClass ("[" ++ ty.toString) = some c := fun ty hm => by
    obtain ⟨c, k, comp, h1, h2, h3⟩ := Cond.arrayClass_spec (hts _ hm)
    exact ⟨c, fun n z => ⟨fun _ h => (by cases h), k, h2, comp, h3⟩, h1⟩
  have ar : ∀ ty : FieldType, Cond.arrayOver (.array ty) ∈ lw_tbl → ∃ c : ClassId, ArrOfT s c (.array ty) ∧ s.vm.findClass ("[" ++ (FieldType.array ty).toString) = some c := fun ty hm => by
    obtain ⟨comp, c, k, -, -, h3, h4, h5⟩ := arrayOver_specB (hts _ hm)
    exact ⟨c, fun n z => ⟨fun _ h => (by cases h), k, h3, comp, h4⟩, h5⟩
  obtain ⟨c0, a0, b0⟩ := pr .int wA_int
  obtain ⟨c1, a1, b1⟩ := pr .long wA_long
  obtain ⟨c2, a2, b2⟩ := pr .boolean wA_boolean
  obtain ⟨c3, a3, b3⟩ := pr .byte wA_byte
  obtain ⟨c4, a4, b4⟩ := ar .int wO_int
  obtain ⟨c5, a5, b5⟩ := ar .long wO_long
  refine ⟨(fun k => (Classical.choose (h1 k)).1, fun k => (Classical.choose (h1 k)).2), fun k => match k with
    | 0 => c0
    | 1 => c1
    | 2 => c2
    | 3 => c3
    | 4 => c4
    | _ => c5, fun k q hq => Classical.choose_spec (h1 k) q hq, fun k q hq => ?_⟩
  match k, hq with
  | 0, hq => cases hq; exact ⟨a0, b0⟩
  | 1, hq => cases hq; exact ⟨a1, b1⟩
  | 2, hq => cases hq; exact ⟨a2, b2⟩
  | 3, hq => cases hq; exact ⟨a3, b3⟩
  | 4, hq => cases hq; exact ⟨a4, b4⟩
  | 5, hq => cases hq; exact ⟨a5, b5⟩
  | n + 6, hq => simp [pm_tys] at hq
theorem va_T_congr {ty : FieldType} {t N : Nat} {f g : Nat → Value} {A : Nat → Prop} {U : State} {H : Heap} (h : va_T ty t N f A U H) (hfg : ∀ j, j < N → f j = g j) : va_T ty t N g A U H := by
  obtain ⟨cell, h1, h2, h3, h4, h5, h6, h7⟩ := h
  exact ⟨cell, h1, h2, h3, h4, h5, fun j hj => by rw [← hfg j hj]; exact h6 j hj, h7⟩
abbrev pm_giv : List Cond := flatC (Jvm.Cond.and given_1 narrow_1)
theorem pm_sarr {args : Array Value} {s : State} {A : Nat → Prop} (hs : ∀ c ∈ pm_giv, c.before args s = true) (hA : ∀ a : Nat, a < s.heap.size → ¬ A a) (C n : String) (l : List Int) (hl : l.length < 2 ^ 31) (h1 : Cond.arrayOf (.static C n "[I") .int ∈ pm_giv) (h2 : Cond.eq (.length (.static C n "[I")) (.int (Int32.ofNat l.length)) ∈ pm_giv)
    (h3 : ∀ j, j < l.length → Cond.eq (.elem (.static C n "[I") (.int (Int32.ofNat j))) (.int (Int32.ofInt (pm_lof l j))) ∈ pm_giv) : ∃ t : Nat, (Term.static C n "[I").eval args s none [] s = some (.ref t) ∧ va_T .int t l.length (fun k => .int (Int32.ofInt (pm_lof l k))) A s s.heap :=
  va_Tof hl (hs _ h1) (va_eqt (hs _ h2)) (fun j hj => va_eqt (hs _ (h3 j hj))) hA
abbrev pm_okz (z : Int) : Prop := -2147483648 ≤ z ∧ z < 2147483648
def pm_tm (i : Nat) : Term := .string "OneWall$Law" (match pm_get pm_strs i with
  | some q => q.2.1
  | none => 0)
def pm_lens : List Nat := pm_txts.map List.length
def pm_byt : List (List Int32) := pm_txts.map (fun l => l.map Int32.ofInt)
def pm_adr (bs t0 t1 t2 t3 t4 : Nat) (adV adK : Nat → Nat) (n : Nat) : Nat := if n = 1005 then bs else if n = 1000 then t0 else if n = 1001 then t1 else if n = 1002 then t2 else if n = 1003 then t3 else if n = 1004 then t4 else if n < 2000 then adV (n - 1010) else adK (n - 2000)
theorem pm_adr_k {bs t0 t1 t2 t3 t4 : Nat} {adV adK : Nat → Nat} (i : Nat) : pm_adr bs t0 t1 t2 t3 t4 adV adK (2000 + i) = adK i := by
  unfold pm_adr
  rw [if_neg (by omega), if_neg (by omega), if_neg (by omega), if_neg (by omega), if_neg (by omega), if_neg (by omega), if_neg (by omega), show 2000 + i - 2000 = i by omega]
theorem pm_adr_v {bs t0 t1 t2 t3 t4 : Nat} {adV adK : Nat → Nat} {i : Nat} (h : i < 10) : pm_adr bs t0 t1 t2 t3 t4 adV adK (1010 + i) = adV i := by
  unfold pm_adr
  rw [if_neg (by omega), if_neg (by omega), if_neg (by omega), if_neg (by omega), if_neg (by omega), if_neg (by omega), if_pos (by omega), show 1010 + i - 1010 = i by omega]
theorem pm_adr_x {bs t0 t1 t2 t3 t4 : Nat} {adV adK : Nat → Nat} {j : Nat} (h : 10 ≤ j) (h' : j < 20) : pm_adr bs t0 t1 t2 t3 t4 adV adK (1000 + j) = adV (j - 10) := by
  unfold pm_adr
  rw [if_neg (by omega), if_neg (by omega), if_neg (by omega), if_neg (by omega), if_neg (by omega), if_neg (by omega), if_pos (by omega), show 1000 + j - 1010 = j - 10 by omega]
theorem pm_EX0 {s : State} {bs L : Nat} {xs : Nat → Int32} (hL : L < 2147483648) (hts : ∀ w ∈ lw_tbl, w.before #[Value.ref bs] s = true) (hgv : (Jvm.Cond.and given_1 narrow_1).before #[Value.ref bs] s = true) (hX : va_X bs L xs s s.heap) (hbl : bs < s.heap.size) :
    ∃ ad : Nat → Nat, ad 1005 = bs ∧ pm_EX s.heap.size ad (pm_X0 L (fun j => (xs j).toInt)) s s.heap := by
  have hs : ∀ c ∈ pm_giv, c.before #[Value.ref bs] s = true := flat_of_before _ hgv
  have hA : ∀ a : Nat, a < s.heap.size → ¬ s.heap.size ≤ a := fun a h => by omega
  obtain ⟨t0, e0, T0⟩ := pm_sarr (A := fun q => s.heap.size ≤ q) hs hA "OneWall$Bodies" "ABOVE" [-1, 0, 0, 2, 1, 3, 0, 4] (by decide) (by decide +kernel) (by decide +kernel) (by decide +kernel)
  obtain ⟨t1, e1, T1⟩ := pm_sarr (A := fun q => s.heap.size ≤ q) hs hA "OneWall$Bodies" "OWN" [1, 10, 11, 2, 20, 0, 0, 0, 0, 30, 0, 0, 0, 41, 40, 0, 0, 0, 50, 0, 0, 0, 0, 60, 70, 0, 0, 0, 0, 80, 0, 81] (by decide) (by decide +kernel) (by decide +kernel) (by decide +kernel)
  obtain ⟨t2, e2, T2⟩ := pm_sarr (A := fun q => s.heap.size ≤ q) hs hA "OneWall$Wall" "AT_FIRST" [4, 50, -1, 1, 1, 1, 1, 2, 12, 3, 1, 3, 0, 0, 0] (by decide) (by decide +kernel) (by decide +kernel) (by decide +kernel)
  obtain ⟨t3, e3, T3⟩ := pm_sarr (A := fun q => s.heap.size ≤ q) hs hA "OneWall$Wall" "GREATEST" [9, 99, 5, 1, 9, 1, 9, 99, 30, 30, 9, 99] (by decide) (by decide +kernel) (by decide +kernel) (by decide +kernel)
  obtain ⟨t4, e4, T4⟩ := pm_sarr (A := fun q => s.heap.size ≤ q) hs hA "OneWall$Wall" "LEAST" [1, 0, -1, 0, 1, 0, 1, 0, 2, 1, 0, 0] (by decide) (by decide +kernel) (by decide +kernel) (by decide +kernel)
  obtain ⟨adK, adV, hS, hE⟩ := vk_Sof (args := #[Value.ref bs]) (s := s) (N := 10) (tm := pm_tm) (len := pm_lens) (byt := pm_byt) (A := fun q => s.heap.size ≤ q) (by decide +kernel)
    (fun i hi => hs _ ((by decide +kernel : ∀ i, i < 10 → Cond.exactly (pm_tm i) "java/lang/String" ∈ pm_giv) i hi))
    (fun i hi => hs _ ((by decide +kernel : ∀ i, i < 10 → Cond.eq (.field (pm_tm i) "java/lang/String" "coder" "B") (.int 0) ∈ pm_giv) i hi))
    (fun i hi => hs _ ((by decide +kernel : ∀ i, i < 10 → Cond.arrayOf (.field (pm_tm i) "java/lang/String" "value" "[B") .byte ∈ pm_giv) i hi))
    (fun i hi => hs _ ((by decide +kernel : ∀ i, i < 10 → Cond.eq (.length (.field (pm_tm i) "java/lang/String" "value" "[B")) (.int (Int32.ofNat (pm_lens.getD i 0))) ∈ pm_giv) i hi))
    (fun i hi j hj => hs _ ((by decide +kernel : ∀ i, i < 10 → ∀ j, j < pm_lens.getD i 0 → Cond.eq (.elem (.field (pm_tm i) "java/lang/String" "value" "[B") (.int (Int32.ofNat j))) (.int ((pm_byt.getD i []).getD j 0)) ∈ pm_giv) i hi j hj))
    (fun i j hi hj hij => ((by decide +kernel : ∀ i, i < 10 → ∀ j, j < 10 → i ≠ j → Cond.not (Cond.eq (pm_tm i) (pm_tm j)) ∈ pm_giv ∨ Cond.not (Cond.eq (pm_tm j) (pm_tm i)) ∈ pm_giv) i hi j hj hij).imp (hs _) (hs _)) hA
  refine ⟨pm_adr bs t0 t1 t2 t3 t4 adV adK, rfl, ?_, ?_, ?_, ?_, ?_, ?_, ?_⟩
  · intro j t n f hj
    unfold pm_X0 at hj
    by_cases h5 : j = 5
    · subst h5
      rw [if_pos rfl] at hj
      cases hj
      refine ⟨Or.inl rfl, hL, ?_, fun k _ => i32_lt _⟩
      obtain ⟨scr, q1, q2, q3, q4, q5⟩ := hX
      refine ⟨scr, ?_, q2, q3, by rw [q4]; exact Nat.le_refl _, by rw [q4], fun k hk => ?_, hA bs hbl⟩
      · exact q1
      · show scr.slots[k]? = some (Value.int (Int32.ofInt (xs k).toInt))
        rw [i32_rt]
        exact q5 k hk
    · rw [if_neg h5] at hj
      by_cases h4 : j < 5
      · rw [if_pos h4] at hj
        match j, hj with
        | 0, hj => cases hj; exact ⟨Or.inl rfl, by decide, T0, fun k hk => (by decide +kernel : ∀ k, k < 8 → pm_okz (pm_lof [-1, 0, 0, 2, 1, 3, 0, 4] k)) k hk⟩
        | 1, hj => cases hj; exact ⟨Or.inl rfl, by decide, T1, fun k hk => (by decide +kernel : ∀ k, k < 32 → pm_okz (pm_lof [1, 10, 11, 2, 20, 0, 0, 0, 0, 30, 0, 0, 0, 41, 40, 0, 0, 0, 50, 0, 0, 0, 0, 60, 70, 0, 0, 0, 0, 80, 0, 81] k)) k hk⟩
        | 2, hj => cases hj; exact ⟨Or.inl rfl, by decide, T2, fun k hk => (by decide +kernel : ∀ k, k < 15 → pm_okz (pm_lof [4, 50, -1, 1, 1, 1, 1, 2, 12, 3, 1, 3, 0, 0, 0] k)) k hk⟩
        | 3, hj => cases hj; exact ⟨Or.inl rfl, by decide, T3, fun k hk => (by decide +kernel : ∀ k, k < 12 → pm_okz (pm_lof [9, 99, 5, 1, 9, 1, 9, 99, 30, 30, 9, 99] k)) k hk⟩
        | 4, hj => cases hj; exact ⟨Or.inl rfl, by decide, T4, fun k hk => (by decide +kernel : ∀ k, k < 12 → pm_okz (pm_lof [1, 0, -1, 0, 1, 0, 1, 0, 2, 1, 0, 0] k)) k hk⟩
        | n + 5, hj => exact absurd h4 (by omega)
      · rw [if_neg h4] at hj
        by_cases h10 : j < 10
        · rw [if_pos h10] at hj; cases hj
        · rw [if_neg h10] at hj
          cases hg : pm_get pm_txts (j - 10) with
          | none => rw [hg] at hj; cases hj
          | some tx =>
            rw [hg] at hj
            cases hj
            have hi : j - 10 < 10 := pm_get_lt hg
            obtain ⟨-, -, -, hT⟩ := hS.1 (j - 10) hi
            have fx : ∀ i, i < 10 → ∀ l, pm_get pm_txts i = some l → pm_lens.getD i 0 = l.length ∧ l.length < 2147483648 ∧ (∀ k, k < l.length → (pm_byt.getD i []).getD k 0 = Int32.ofInt (pm_lof l k)) ∧ ∀ k, k < l.length → pm_okz (pm_lof l k) := by
              intro i hi l hl
              match i, hi with
              | 0, _ => cases hl; decide +kernel
              | 1, _ => cases hl; decide +kernel
              | 2, _ => cases hl; decide +kernel
              | 3, _ => cases hl; decide +kernel
              | 4, _ => cases hl; decide +kernel
              | 5, _ => cases hl; decide +kernel
              | 6, _ => cases hl; decide +kernel
              | 7, _ => cases hl; decide +kernel
              | 8, _ => cases hl; decide +kernel
              | 9, _ => cases hl; decide +kernel
            obtain ⟨f1, f2, f3, f4⟩ := fx (j - 10) hi tx hg
            rw [f1] at hT
            refine ⟨Or.inr rfl, f2, ?_, f4⟩
            have ea : pm_adr bs t0 t1 t2 t3 t4 adV adK (1000 + j) = adV (j - 10) := pm_adr_x (by omega) (by omega)
            rw [ea]
            exact va_T_congr hT (fun k hk => by rw [f3 k hk])
  · intro q hq
    have hz : ∀ (C n d : String) (v : Value), Cond.laysStatic C n d ∈ lw_tbl → Cond.initialized C ∈ lw_tbl → (Term.static C n d).eval #[Value.ref bs] s none [] s = some v → va_Z C n d v (fun q => s.heap.size ≤ q) s s.heap := fun C n d v h1 h2 h3 => va_Zof (hts _ h1) (hts _ h2) h3 hA
    simp only [pm_stats, List.mem_cons, List.not_mem_nil, or_false] at hq
    rcases hq with rfl | rfl | rfl | rfl | rfl | rfl
    · exact hz _ _ _ _ wS_0 wZ_0 e0
    · exact hz _ _ _ _ wS_1 wZ_1 e1
    · exact hz _ _ _ _ wS_2 wZ_2 e2
    · exact hz _ _ _ _ wS_3 wZ_3 e3
    · exact hz _ _ _ _ wS_4 wZ_4 e4
    · exact hz _ _ _ _ wS_5 wZ_5 (va_eqi (hs _ (by decide +kernel)))
  · intro i hi
    obtain ⟨q1, q2, q3, -⟩ := hS.1 i hi
    have ek : pm_adr bs t0 t1 t2 t3 t4 adV adK (2000 + i) = adK i := pm_adr_k i
    have ev : pm_adr bs t0 t1 t2 t3 t4 adV adK (1010 + i) = adV i := pm_adr_v (by omega)
    rw [ek, ev]
    exact ⟨q1, q2, q3⟩
  · have hr : ∀ i, i < 10 → ∀ q, pm_get pm_strs i = some q → vk_R q.1 q.2.1 q.2.2.1 (adK i) s ∧ q.2.2.2 = i := by
      intro i hi q hq
      have hev := hE i hi
      have hc : Cond.stringRef q.1 q.2.1 q.2.2.1 ∈ lw_tbl ∧ pm_tm i = .string q.1 q.2.1 ∧ q.2.2.2 = i := by
        match i, hi with
        | 0, _ => cases hq; exact ⟨wR_0, rfl, rfl⟩
        | 1, _ => cases hq; exact ⟨wR_1, rfl, rfl⟩
        | 2, _ => cases hq; exact ⟨wR_2, rfl, rfl⟩
        | 3, _ => cases hq; exact ⟨wR_3, rfl, rfl⟩
        | 4, _ => cases hq; exact ⟨wR_4, rfl, rfl⟩
        | 5, _ => cases hq; exact ⟨wR_5, rfl, rfl⟩
        | 6, _ => cases hq; exact ⟨wR_6, rfl, rfl⟩
        | 7, _ => cases hq; exact ⟨wR_7, rfl, rfl⟩
        | 8, _ => cases hq; exact ⟨wR_8, rfl, rfl⟩
        | 9, _ => cases hq; exact ⟨wR_9, rfl, rfl⟩
      refine ⟨vk_R.of (hts _ hc.1) ?_, hc.2.2⟩
      rw [← hc.2.1]
      exact hev
    intro q hq
    obtain ⟨i, hi⟩ := List.getElem?_of_mem hq
    rw [← pm_get_eq] at hi
    have hlt : i < 10 := pm_get_lt hi
    obtain ⟨r1, r2⟩ := hr i hlt q hi
    rw [r2]
    have ek : pm_adr bs t0 t1 t2 t3 t4 adV adK (2000 + i) = adK i := pm_adr_k i
    rw [ek]
    exact r1
  · intro q hq
    exact va_Nw.of rfl (hts _ ((by decide +kernel : ∀ q ∈ pm_nst, Cond.methodLinkNest q.1 q.2.1 q.2.2.1 q.2.2.2 ∈ lw_tbl) q hq))
  · exact pm_AO (u := s) (U := s) (Vm.Alike.refl _) (fun A => arrayOver_alikeB (Vm.Alike.refl _) (hts (.arrayOver (.array .int)) wO_int))
  · exact pm_AO (u := s) (U := s) (Vm.Alike.refl _) (fun A => arrayOver_alikeB (Vm.Alike.refl _) (hts (.arrayOver (.array .long)) wO_long))
theorem pm_okC_nm {T : List pm_M} {own nm : String} {ret : Option FieldType} {cc : ByteArray} {C : pm_C} (h : pm_okC T own "" ret cc C) : pm_okC T own nm ret cc C := by
  intro pc ins x hf
  obtain ⟨h1, h2⟩ := h pc ins x hf
  refine ⟨h1, ?_⟩
  cases ins with
  | putfield idx =>
    obtain ⟨r, q1, q2, q3, q4⟩ := h2
    refine ⟨r, q1, q2, q3, ?_⟩
    rcases q4 with q4 | ⟨-, q5, -⟩
    · exact Or.inl q4
    · exact absurd q5 (by decide)
  | _ => exact h2
/-- the pure machine's law, from its entry: X the arrays outside (the script among them) -/
noncomputable def pm_lawRun (L : Nat) (xs : Nat → Int) (n : Nat) : Option pm_R := pm_run (pm_E pm_T (pm_X0 L xs) pm_fc 1000) (pm_X0 L xs) pm_fc CL_law n (0, [(2, 1005), (9, 0), (9, 0), (9, 0)], [], ([], fun _ _ => 0))
set_option maxHeartbeats 4000000 in
theorem pm_start {p : Program} {e : Env} {s : State} {m : MethodId} {below : List Frame} {meth : Method} {c : Code} (l : Launch) {b L : Nat} {xs : Nat → Int32} (hL : L < 2147483648) (C0 : lw_At p s m meth c b L xs) {n : Nat} {σf : pm_S} (hrun : pm_lawRun L (fun j => (xs j).toInt) n = some (some (0, 1), σf)) (hz1 : σf.1.length ≤ 600000) (hz2 : pm_sl σf.1 ≤ 7302250) :
    W p l e room_1 s m #[Value.ref b] below meth c s.heap [] 0 0 (lw_Z below #[Value.ref b] s) (entryFrame m ([Value.ref b] : List Value).toArray 4) := by
  obtain ⟨hx, hb, hr, hml, hown, hts, hX, hbl, hlocks, hgv⟩ := C0
  obtain ⟨D, ca, hK⟩ := pm_KN hts
  obtain ⟨ad, had, hEX⟩ := pm_EX0 hL hts hgv hX hbl
  have hts' : ∀ w ∈ pm_U, w.before #[Value.ref b] s = true := fun w hw => hts w (pm_U_in w hw)
  have hcls : ∀ y M, pm_get pm_T y = some M → M.1.cls ≠ "" := fun y M hM => by
    have : ∀ M ∈ pm_T, M.1.cls ≠ "" := by decide +kernel
    exact this M (pm_get_mem hM)
  have F : pm_Fx p l room_1 s m #[Value.ref b] meth c s.heap.size ad ca pm_fc D 4 0 (pm_X0 L fun j => (xs j).toInt) pm_T 1000 code R_law meth.name :=
    ⟨hx, hb, hml, hown, hts', hK, hEX, pm_CL_fc, rfl, rfl, by decide, by decide, pm_sound hcls pm_CL_fc pm_T_ok 1000⟩
  have hC : pm_okC pm_T R_law meth.name ret code CL_law := pm_okC_nm ok_law
  have run := pm_s_run (p := p) (e := e) (below := below) (Q := lw_Z below #[Value.ref b] s) (s0 := 0) F hC (by show σf.1.length ≤ 600000 + 0; omega) (by show pm_sl σf.1 ≤ 7302250 + 0; omega) (fun g hg => ?_) n (0, [(2, 1005), (9, 0), (9, 0), (9, 0)], [], ([], fun _ _ => 0)) (by decide) hrun
  · rw [lg_entry_eq]
    have hlv := pm_lv_pad (b := s.heap.size) (ad := ad) (vs := [(2, 1005)]) (n := 4) (by decide)
    have ev : ([(2, 1005)] : List pm_V).map (pm_val s.heap.size ad) = [Value.ref b] := by
      show [Value.ref (pm_ad s.heap.size ad 1005)] = _
      unfold pm_ad
      rw [if_neg (by omega), had]
    rw [ev] at hlv
    refine run s.heap [] _ 0 0 hlv (fun k q hq => ?_) rfl (fun q _ => rfl) (fun q hq => by cases hq) ⟨fun v hv => ?_, ⟨fun v hv => (by cases hv), ⟨⟨by decide, fun i sh hi => ?_⟩, fun i sh hi => ?_⟩⟩⟩ rfl rfl
    · rw [pm_ws_get] at hq
      cases k <;> cases hq
    · have hv' : v ∈ ([(2, 1005), (9, 0), (9, 0), (9, 0)] : List pm_V) := hv
      simp only [List.mem_cons, List.not_mem_nil, or_false] at hv'
      rcases hv' with rfl | rfl | rfl | rfl <;> exact trivial
    · cases i <;> cases hi
    · cases i <;> cases hi
  · obtain ⟨ins, x, hf, hst⟩ := pm_step_inv hg
    obtain ⟨hd, hw⟩ := hC _ _ _ hf
    have hgr := pm_exec_gr (pm_E_gr (T := pm_T) (X := pm_X0 L fun j => (xs j).toInt) (fc := pm_fc) 1000) hst
    have hσ : σf = g.2.2.2 := hgr
    intro H locs rls cells slots h1 h2 h3 h4 h5 h6 h7 h8
    rw [← hσ] at h7 h8
    have hret : ∀ {t a : Nat}, pm_ret t a g.2.2.1 g.2.2.2 = some (.inr (some (0, 1), σf)) → t = 0 ∧ g.2.2.1 = [(0, 1)] := fun h => by
      unfold pm_ret at h
      split at h
      · next t0 z hs =>
        split at h
        · next hc =>
          cases h
          exact ⟨rfl, by rw [hs, hc.1]⟩
        · cases h
      · cases h
    cases ins with
    | ireturn =>
      obtain ⟨-, hs1⟩ := hret (t := 0) (a := x.1) hst
      rw [hs1]
      exact va_forget h5 (W.widen (k := 600000) (n := 7302250) (by omega) (by omega) (lw_ret hx hb hr hlocks hd))
    | lreturn => exact absurd (hret (t := 1) (a := 0) hst).1 (by decide)
    | areturn => exact absurd (hret (t := 2) (a := 0) hst).1 (by decide)
    | return_ =>
      have hs' : (match g.2.2.1 with
        | [] => some (.inr (none, g.2.2.2))
        | _ => none) = some (Sum.inr (some (0, 1), σf) : pm_F ⊕ pm_R) := hst
      split at hs' <;> cases hs'
    | _ => exact absurd (pm_exec_nr hst rfl) (by rintro ⟨g', hg'⟩; cases hg')


