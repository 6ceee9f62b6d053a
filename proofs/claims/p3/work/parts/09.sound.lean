/-! THE REST OF THE INSTRUCTIONS, CALLS, AND THE WHOLE: what the pure machine answers, the machine does -/
def pm_gm (M : pm_M) (n : Nat) : Prop := plainName M.1.cls = true ∧ M.2.2.1 ≤ 40 ∧ (M.1.cls ≠ "java/lang/invoke/MethodHandle" ∧ M.1.cls ≠ "java/lang/invoke/VarHandle" ∧ (parseMethodDescriptor M.1.desc).map (fun d => d.parameters.length) = some n) ∧ Cond.code M.1 M.2.1 M.2.2.1 M.2.2.2.1 ∈ pm_U ∧ Cond.initialized M.1.cls ∈ pm_U
def pm_wd (T : List pm_M) (own nm : String) (ret : Option FieldType) (pc : Nat) (ins : Instr) (x : pm_A) : Prop := match ins with
  | .iconst n => -128 ≤ n ∧ n ≤ 127
  | .bipush n => -128 ≤ n ∧ n ≤ 127
  | .sipush n => -32768 ≤ n ∧ n ≤ 32767
  | .ldc idx => (x.1 = 0 ∧ pm_ok (0, x.2.2.1) ∧ Cond.constant own idx (Int32.ofInt x.2.2.1) ∈ pm_U) ∨ (x.1 = 2 ∧ ∃ q ∈ pm_strs, q.1 = own ∧ q.2.1 = idx ∧ x.2.2.1 = ((2000 + q.2.2.2 : Nat) : Int))
  | .ldc_w idx => pm_ok (0, x.2.2.1) ∧ Cond.constant own idx (Int32.ofInt x.2.2.1) ∈ pm_U
  | .ldc2_w idx => pm_ok (1, x.2.2.1) ∧ Cond.constantLong own idx (Int64.ofInt x.2.2.1) ∈ pm_U
  | .getstatic idx => ∃ q ∈ pm_stats, q.2.2.2 = (x.1, x.2.2.1) ∧ pm_ok (x.1, x.2.2.1) ∧ Cond.fieldLink own idx q.1 q.2.1 q.2.2.1 ∈ pm_U
  | .getfield idx => (x.1 = 100 ∧ ((x.2.1 = 0 ∧ Cond.fieldLink own idx "java/lang/String" "value" "[B" ∈ pm_U) ∨ (x.2.1 = 1 ∧ Cond.fieldLink own idx "java/lang/String" "coder" "B" ∈ pm_U))) ∨
      (x.1 ≠ 100 ∧ ∃ r : vw_C, vwCl[x.1]? = some r ∧ x.2.1 < r.2.2 ∧ Cond.fieldLink own idx (r.2.1 x.2.1).1 (r.2.1 x.2.1).2.1 (r.2.1 x.2.1).2.2.1 ∈ pm_U)
  | .putfield idx => ∃ r : vw_C, vwCl[x.1]? = some r ∧ x.2.1 < r.2.2 ∧ Cond.fieldLink own idx (r.2.1 x.2.1).1 (r.2.1 x.2.1).2.1 (r.2.1 x.2.1).2.2.1 ∈ pm_U ∧ ((r.2.1 x.2.1).2.2.2 = false ∨ ((r.2.1 x.2.1).2.2.2 = true ∧ nm = "<init>" ∧ (r.2.1 x.2.1).1 = own))
  | .new idx => ∃ r : vw_C, vwCl[x.1]? = some r ∧ x.2.1 = r.2.2 ∧ Cond.classLink own idx r.1 ∈ pm_U ∧ Cond.instantiable r.1 r.2.2 ∈ pm_U ∧ Cond.initialized r.1 ∈ pm_U
  | .newarray ty => Cond.arrayClass (newarray.typeOf ty) ∈ pm_U
  | .multianewarray idx _ => (x.1 = 4 ∨ x.1 = 5) ∧ Cond.classLink own idx ("[" ++ (pm_ety x.1).toString) ∈ pm_U ∧ Cond.arrayClass (pm_ety (x.1 - 4)) ∈ pm_U
  | .invokestatic idx => (x.2.2.1 = 1 ∧ Cond.methodLink own idx arraycopyName ∈ pm_U ∧ Cond.native arraycopyName ∈ pm_U ∧ Cond.static arraycopyName ∈ pm_U ∧ Cond.initialized "java/lang/System" ∈ pm_U) ∨
      (x.2.2.1 = 2 ∧ Cond.methodLink own idx Lib.Math.max.name ∈ pm_U ∧ Cond.static Lib.Math.max.name ∈ pm_U ∧ Cond.initialized "java/lang/Math" ∈ pm_U ∧ Cond.code Lib.Math.max.name Lib.Math.max.code 2 (some .int) ∈ pm_U) ∨
      (x.2.2.1 = 3 ∧ Cond.methodLink own idx Lib.Math.min.name ∈ pm_U ∧ Cond.static Lib.Math.min.name ∈ pm_U ∧ Cond.initialized "java/lang/Math" ∈ pm_U ∧ Cond.code Lib.Math.min.name Lib.Math.min.code 2 (some .int) ∈ pm_U) ∨
      (x.2.2.1 = 4 ∧ Cond.methodLink own idx Lib.Math.abs.name ∈ pm_U ∧ Cond.static Lib.Math.abs.name ∈ pm_U ∧ Cond.initialized "java/lang/Math" ∈ pm_U ∧ Cond.code Lib.Math.abs.name Lib.Math.abs.code 1 (some .int) ∈ pm_U) ∨
      (x.2.2.1 = 0 ∧ ∃ M, pm_get T x.1 = some M ∧ pm_gm M x.2.1 ∧ Cond.methodLink own idx M.1 ∈ pm_U ∧ Cond.static M.1 ∈ pm_U)
  | .invokevirtual idx => ∃ M, pm_get T x.1 = some M ∧ pm_gm M x.2.1 ∧ Cond.methodLink own idx M.1 ∈ pm_U ∧ Cond.instanceMethod M.1 ∈ pm_U ∧ Cond.selects M.1.cls M.1 M.1 ∈ pm_U ∧
      ((x.2.2.1 = 100 ∧ M.1.cls = "java/lang/String") ∨ (x.2.2.1.toNat ≠ 100 ∧ ∃ r : vw_C, vwCl[x.2.2.1.toNat]? = some r ∧ r.1 = M.1.cls))
  | .invokespecial idx => (x.2.2.1 = 1 ∧ Cond.methodLink own idx objectInit ∈ pm_U ∧ Cond.instanceMethod objectInit ∈ pm_U ∧ Cond.code objectInit ⟨#[0xb1]⟩ 1 none ∈ pm_U) ∨
      (x.2.2.1 = 0 ∧ ∃ M, pm_get T x.1 = some M ∧ pm_gm M x.2.1 ∧ M.1.name = "<init>" ∧ M.2.2.2.1 = none ∧ Cond.instanceMethod M.1 ∈ pm_U ∧ (Cond.methodLink own idx M.1 ∈ pm_U ∨ ∃ q ∈ pm_nst, q.1 = own ∧ q.2.1 = idx ∧ q.2.2.1 = M.1))
  | .ifCond _ off => 0 ≤ (pc : Int) + off
  | .if_icmp _ off => 0 ≤ (pc : Int) + off
  | .goto off => 0 ≤ (pc : Int) + off
  | .tableswitch dflt _ _ offs => 0 ≤ (pc : Int) + dflt ∧ ∀ o ∈ offs.toList, 0 ≤ (pc : Int) + o
  | .lookupswitch dflt ps => (ps.toList.zip (ps.toList.drop 1)).all (fun (a, next) => a.1 < next.1) = true ∧ 0 ≤ (pc : Int) + dflt ∧ ∀ q ∈ ps.toList, 0 ≤ (pc : Int) + q.2
  | .ireturn => (x.1 = 0 ∧ ret = some .int) ∨ (x.1 = 1 ∧ ret = some .boolean) ∨ (x.1 = 2 ∧ ret = some .byte)
  | .lreturn => ret = some .long
  | .areturn => ∃ n, ret = some (.object n)
  | .return_ => ret = none
  | _ => True
def pm_len (ins : Instr) (x : pm_A) : Nat := match ins with
  | .bipush _ => 2
  | .sipush _ => 3
  | .ldc _ => 2
  | .ldc_w _ => 3
  | .ldc2_w _ => 3
  | .getstatic _ => 3
  | .getfield _ => 3
  | .putfield _ => 3
  | .new _ => 3
  | .newarray _ => 2
  | .multianewarray _ _ => 4
  | .invokestatic _ => 3
  | .invokevirtual _ => 3
  | .invokespecial _ => 3
  | .ifCond _ _ => 3
  | .if_icmp _ _ => 3
  | .goto _ => 3
  | .iload _ => 2
  | .lload _ => 2
  | .aload _ => 2
  | .istore _ => 2
  | .lstore _ => 2
  | .astore _ => 2
  | .iinc _ _ => 3
  | .tableswitch _ _ _ _ => x.1
  | .lookupswitch _ _ => x.1
  | _ => 1
theorem goodU : ∀ w ∈ pm_U, w ∈ pm_U ∧ ((w.onTables && w.keeps) = true ∨ ∃ ty, w = .arrayClass ty) := fun w h => ⟨h, good_of_word (List.mem_filter.mp h).2⟩
theorem goodU_cons {M : pm_M} (h : Cond.code M.1 M.2.1 M.2.2.1 M.2.2.2.1 ∈ pm_U) : GoodIn pm_U (Cond.code M.1 M.2.1 M.2.2.1 M.2.2.2.1 :: pm_U) := fun w hw => by
  rcases List.mem_cons.mp hw with rfl | hw
  · exact goodU _ h
  · exact goodU w hw
def pm_rm (d mc ms : Nat) : Room := { frames := d, cells := mc, slots := ms, locals := 64 * d }
def pm_Pc (b : Nat) (ad : Nat → Nat) (ca : Nat → ClassId) (fc : pm_K) (D : va_G) (X : pm_X) (as : List pm_V) (σ : pm_S) : Array Value → State → Prop := fun v U => v = (as.map (pm_val b ad)).toArray ∧ U.heap.size = b + σ.1.length ∧ va_P D vwCl (pm_ws b ad ca fc σ) U.heap ∧ va_K D vwCl (pm_tys ca) U ∧ pm_EX b ad X U U.heap
def pm_Qc (b : Nat) (ad : Nat → Nat) (ca : Nat → ClassId) (fc : pm_K) (D : va_G) (rv : Option pm_V) (σ : pm_S) : Array Value → State → Outcome → State → Prop := fun _ st o t => o = .returned (rv.map (pm_val b ad)) ∧ va_P D vwCl (pm_ws b ad ca fc σ) t.heap ∧ (∀ q : Nat, q < b → t.heap[q]? = st.heap[q]?) ∧ (∀ v, rv = some v → pm_ok v) ∧ pm_mok fc σ
/-- what a call's answer means: from any state that holds the picture the method returns it -/
def pm_Snd (l : Launch) (b : Nat) (ad : Nat → Nat) (ca : Nat → ClassId) (fc : pm_K) (D : va_G) (X : pm_X) (T : List pm_M) (d : Nat) : Prop := ∀ (y n : Nat) (M : pm_M) (as : List pm_V) (σ : pm_S) (rv : Option pm_V) (σ' : pm_S), pm_get T y = some M → pm_gm M n → pm_E T X fc d y as σ = some (rv, σ') → (∀ v ∈ as, pm_ok v) → pm_mok fc σ →
  Met l M.1 (Cond.code M.1 M.2.1 M.2.2.1 M.2.2.2.1 :: pm_U) (pm_rm d (σ'.1.length - σ.1.length) (pm_sl σ'.1 - pm_sl σ.1)) (pm_Pc b ad ca fc D X as σ) (pm_Qc b ad ca fc D rv σ') (σ'.1.length - σ.1.length) (pm_sl σ'.1 - pm_sl σ.1) (fun q => b ≤ q)
section PMS
variable {p : Program} {l : Launch} {e : Env} {R : Room} {s : State} {m : MethodId} {args : Array Value} {below : List Frame} {meth : Method} {c : Code} {Q : State → Prop}
variable {b : Nat} {ad : Nat → Nat} {ca : Nat → ClassId} {fc : pm_K} {D : va_G} {cc : ByteArray} {nL n0 s0 : Nat} {pc pc' : Nat} {ls st st' : List pm_V} {σ : pm_S} {H H1 : Heap} {locs : List Loc} {cells slots : Nat} {X : pm_X} {T : List pm_M} {d : Nat} {own nm : String} {ret : Option FieldType} {ins : Instr} {x : pm_A}
/-- where we stand: what doesn't change through a method's run -/
def pm_Fx (p : Program) (l : Launch) (R : Room) (s : State) (m : MethodId) (args : Array Value) (meth : Method) (c : Code) (b : Nat) (ad : Nat → Nat) (ca : Nat → ClassId) (fc : pm_K) (D : va_G) (nL n0 : Nat) (X : pm_X) (T : List pm_M) (d : Nat) (cc : ByteArray) (own nm : String) : Prop :=
  p.tables.exec = Jvm.exec ∧ c.code = cc ∧ c.maxLocals = nL ∧ s.vm.findClass own = some m.cls ∧ (∀ w ∈ pm_U, w.before args s = true) ∧ va_K D vwCl (pm_tys ca) s ∧ pm_EX b ad X s s.heap ∧ pm_CL fc ∧ s.heap.size = b + n0 ∧ meth.name = nm ∧ d + 1 ≤ R.frames ∧ 64 * d + 64 ≤ R.locals ∧ pm_Snd l b ad ca fc D X T d
theorem pm_pop_eq : ∀ (n : Nat) (acc st as rest : List pm_V), pm_pop n acc st = some (as, rest) → ∃ pre, pre.length = n ∧ st = pre ++ rest ∧ as = pre.reverse ++ acc
  | 0, acc, st, as, rest, h => by cases h; exact ⟨[], rfl, rfl, rfl⟩
  | n + 1, acc, [], as, rest, h => by cases h
  | n + 1, acc, v :: st, as, rest, h => by
    obtain ⟨pre, h1, h2, h3⟩ := pm_pop_eq n (v :: acc) st as rest h
    exact ⟨v :: pre, by simp [h1], by simp [h2], by simp [h3]⟩
theorem pm_after {mc ms : Nat} {rls : Array Slot} {st0 rest : List Value} {rv : Option pm_V} {σ' : pm_S} {a : Array Value} (hr : va_Run p l e R s m args below meth c H locs cells slots mc ms (F0 m pc rls st0) rest (pm_Qc b ad ca fc D rv σ' a) (fun q => b ≤ q)) (h5 : ∀ q ∈ locs, b ≤ q.base)
    (kk : ∀ (H1 : Heap) (locs1 : List Loc), va_P D vwCl (pm_ws b ad ca fc σ') H1 → (∀ q : Nat, q < b → H1[q]? = H[q]?) → (∀ q ∈ locs1, b ≤ q.base) → (∀ v, rv = some v → pm_ok v) → pm_mok fc σ' → W p l e R s m args below meth c H1 locs1 (cells + mc) (slots + ms) Q (F0 m (pc + 3) rls ((rv.map (pm_val b ad)).toList ++ rest))) : W p l e R s m args below meth c H locs cells slots Q (F0 m pc rls st0) := by
  intro T hT Xs
  obtain ⟨v, st₀, t, T', L, hst, X', hL, e1, e2, ⟨ho, hP, hq, hv, hm⟩, go⟩ := hr T hT Xs
  have hv' : v = rv.map (pm_val b ad) := by injection ho
  subst hv'
  subst hst
  obtain ⟨t2, a1, b1⟩ := kk T'.heap (locs ++ L) (by rw [e1]; exact hP) (fun q h => by rw [e1]; exact hq q h) (fun q hq => by
    rcases List.mem_append.mp hq with h | h
    · exact h5 q h
    · exact hL q h) hv hm T' rfl X'
  exact ⟨t2, go t2 a1, b1⟩
theorem pm_blind (b : Nat) (ad : Nat → Nat) (ca : Nat → ClassId) (fc : pm_K) (D : va_G) (X : pm_X) (as : List pm_V) (σ : pm_S) : FrameBlind (pm_Pc b ad ca fc D X as σ) := fun a U g mk h =>
  ⟨h.1, h.2.1, h.2.2.1, va_K.moved (u := U) (U := U.calling g mk a) (Vm.Alike.refl U.vm) h.2.2.2.1, pm_EX.same (u := U) (U := U.calling g mk a) h.2.2.2.2 rfl⟩
theorem pm_pre {as : List pm_V} (hK : va_K D vwCl (pm_tys ca) s) (hEX : pm_EX b ad X s s.heap) (h0 : s.heap.size = b + n0) (h2 : va_P D vwCl (pm_ws b ad ca fc σ) H) (h3 : H.size = b + σ.1.length) (h4 : ∀ q : Nat, q < b → H[q]? = s.heap[q]?) : PreS s H (pm_Pc b ad ca fc D X as σ) (as.map (pm_val b ad)) :=
  ⟨pm_blind b ad ca fc D X as σ, fun U hU hW => ⟨rfl, by rw [hU]; exact h3, by rw [hU]; exact h2, va_K.moved hW.alike hK, by rw [hU]; exact hEX.go hW (by omega) h4⟩⟩
theorem pm_room {r : List pm_V} (hf : pm_fit 4 r = true) {rls : Array Slot} {stk : List Value} : 2 * (F0 m pc rls stk).monitorRoom + ((r.map (pm_val b ad)).map fun v => v.category).sum ≤ 8 := lv_room (pm_fit_le b ad 4 r hf)
/-- behind a call -/
theorem pm_back {as rest : List pm_V} {rv : Option pm_V} {σ' : pm_S} {rls : Array Slot} {st0 : List Value} {a : Array Value} (hgr : pm_gr σ σ') (h0 : s.heap.size = b + n0)
    (hr : va_Run p l e R s m args below meth c H locs cells slots (σ'.1.length - σ.1.length) (pm_sl σ'.1 - pm_sl σ.1) (F0 m pc rls st0) (rest.map (pm_val b ad)) (pm_Qc b ad ca fc D rv σ' a) (fun q => b ≤ q))
    (h1 : lv_has rls nL (pm_lv b ad 0 ls)) (h4 : ∀ q : Nat, q < b → H[q]? = s.heap[q]?) (h5 : ∀ q ∈ locs, b ≤ q.base) (h6l : ∀ v ∈ ls, pm_ok v) (h6r : ∀ v ∈ rest, pm_ok v) (h7 : cells + n0 = σ.1.length) (h8 : slots + s0 = pm_sl σ.1)
    (kk : pm_W p l e R s m args below meth c Q b ad ca fc D nL n0 s0 (pc + 3, ls, pm_psh rv rest, σ')) : W p l e R s m args below meth c H locs cells slots Q (F0 m pc rls st0) := by
  obtain ⟨g1, g2⟩ := hgr
  refine pm_after hr h5 (fun H1 locs1 hP1 hq1 hl1 hv hm => ?_)
  have hc1 : cells + (σ'.1.length - σ.1.length) + n0 = σ'.1.length := by omega
  have hc2 : slots + (pm_sl σ'.1 - pm_sl σ.1) + s0 = pm_sl σ'.1 := by omega
  refine pm_szW h0 hP1 hc1 (fun hz => ?_)
  cases rv with
  | none => exact kk H1 locs1 rls _ _ h1 hP1 hz (fun q h => (hq1 q h).trans (h4 q h)) hl1 ⟨h6l, h6r, hm⟩ hc1 hc2
  | some v => exact kk H1 locs1 rls _ _ h1 hP1 hz (fun q h => (hq1 q h).trans (h4 q h)) hl1 ⟨h6l, ok_c (hv v rfl) h6r, hm⟩ hc1 hc2
theorem pm_wsS {M : pm_M} {idx n : Nat} (hg : pm_gm M n) (h1 : Cond.methodLink own idx M.1 ∈ pm_U) (h2 : Cond.static M.1 ∈ pm_U) : GoodIn pm_U (va_wsS own idx M.1 (Cond.code M.1 M.2.1 M.2.2.1 M.2.2.2.1 :: pm_U)) := fun w hw => by
  unfold va_wsS at hw
  rcases List.mem_append.mp hw with hw | hw
  · simp only [List.mem_cons, List.not_mem_nil, or_false] at hw
    rcases hw with rfl | rfl | rfl
    · exact goodU _ h1
    · exact goodU _ h2
    · exact goodU _ hg.2.2.2.2
  · exact goodU_cons hg.2.2.2.1 w hw
theorem pm_wsV {M : pm_M} {idx n : Nat} (hg : pm_gm M n) (h1 : Cond.methodLink own idx M.1 ∈ pm_U) (h2 : Cond.instanceMethod M.1 ∈ pm_U) (h3 : Cond.selects M.1.cls M.1 M.1 ∈ pm_U) : GoodIn pm_U (wsV own idx M.1.cls M.1 (Cond.code M.1 M.2.1 M.2.2.1 M.2.2.2.1 :: pm_U)) := fun w hw => by
  unfold wsV at hw
  rcases List.mem_append.mp hw with hw | hw
  · simp only [List.mem_cons, List.not_mem_nil, or_false] at hw
    rcases hw with rfl | rfl | rfl | rfl
    · exact goodU _ h1
    · exact goodU _ h2
    · exact goodU _ h3
    · exact goodU _ hg.2.2.2.2
  · exact goodU_cons hg.2.2.2.1 w hw
theorem pm_hR {M : pm_M} {n mc ms : Nat} (hg : pm_gm M n) (h1 : d + 1 ≤ R.frames) (h2 : 64 * d + 64 ≤ R.locals) : (pm_rm d mc ms).frames + 1 ≤ R.frames ∧ 8 + (M.2.2.1 + 11) + (pm_rm d mc ms).locals ≤ R.locals := by
  have h3 := hg.2.1
  exact ⟨h1, by show 8 + (M.2.2.1 + 11) + 64 * d ≤ R.locals; omega⟩
theorem pm_s_callS {idx y n : Nat} {M : pm_M} {g' : pm_F} (F : pm_Fx p l R s m args meth c b ad ca fc D nL n0 X T d cc own nm) (hM : pm_get T y = some M) (hg : pm_gm M n) (hl : Cond.methodLink own idx M.1 ∈ pm_U) (hs : Cond.static M.1 ∈ pm_U) (hd : decode cc pc = .ok (.invokestatic idx, 3)) (h : pm_callS (pm_E T X fc d) y n pc ls st σ = some (.inl g'))
    (hroom : g'.2.2.2.1.length ≤ R.cells + n0 ∧ pm_sl g'.2.2.2.1 ≤ R.slots + s0) (kk : pm_W p l e R s m args below meth c Q b ad ca fc D nL n0 s0 g') : pm_W p l e R s m args below meth c Q b ad ca fc D nL n0 s0 (pc, ls, st, σ) := by
  obtain ⟨hx, hb, hml, hown, hts, hK, hEX, hC, h0, hnm, hfr, hlo, hSnd⟩ := F
  obtain ⟨as, rest, hp, hc⟩ := pm_callS_inv h
  obtain ⟨rv, σ', hfit, hE, ge⟩ := pm_call_inv hc
  cases ge
  have hgr := pm_E_gr d _ _ _ _ _ hE
  have g1 := hgr.1
  have g2 := hgr.2
  obtain ⟨pre, p1, p2, p3⟩ := pm_pop_eq _ _ _ _ _ hp
  rw [List.append_nil] at p3
  intro H locs rls cells slots h1 h2 h3 h4 h5 h6 h7 h8
  have h7 : cells + n0 = σ.1.length := h7
  have h8 : slots + s0 = pm_sl σ.1 := h8
  have ha : ∀ v ∈ as, pm_ok v := fun v hv => h6.2.1 v (by show v ∈ st; rw [p2]; rw [p3] at hv; exact List.mem_append_left _ (List.mem_reverse.mp hv))
  have hr : ∀ v ∈ rest, pm_ok v := fun v hv => h6.2.1 v (by show v ∈ st; rw [p2]; exact List.mem_append_right _ hv)
  have hMet := hSnd y n M as σ rv σ' hM hg hE ha h6.2.2
  have hr1 : σ'.1.length ≤ R.cells + n0 := hroom.1
  have hr2 : pm_sl σ'.1 ≤ R.slots + s0 := hroom.2
  exact pm_back (as := as) hgr h0 (va_runS ⟨hx, hb, hml, hown, hts⟩ hMet (va_cwS n hts (pm_wsS hg hl hs) rfl rfl rfl hg.2.2.1 (pm_hR hg hfr hlo)) (pm_pre hK hEX h0 h2 h3 h4) rfl (by rw [List.length_map, p3, List.length_reverse]; exact p1) h1.1 (by show st.map (pm_val b ad) = _; rw [p2, p3]; simp) (pm_room hfit) hd ⟨by omega, by omega⟩) h1 h4 h5 h6.1 hr h7 h8 kk
theorem pm_s_callV {idx y n z : Nat} {M : pm_M} {g' : pm_F} (F : pm_Fx p l R s m args meth c b ad ca fc D nL n0 X T d cc own nm) (hM : pm_get T y = some M) (hg : pm_gm M n) (hl : Cond.methodLink own idx M.1 ∈ pm_U) (hs : Cond.instanceMethod M.1 ∈ pm_U) (hse : Cond.selects M.1.cls M.1 M.1 ∈ pm_U)
    (hz : (z = 100 ∧ M.1.cls = "java/lang/String") ∨ (z ≠ 100 ∧ ∃ r : vw_C, vwCl[z]? = some r ∧ r.1 = M.1.cls)) (hd : decode cc pc = .ok (.invokevirtual idx, 3)) (h : pm_callV (pm_E T X fc d) y n z pc ls st σ = some (.inl g'))
    (hroom : g'.2.2.2.1.length ≤ R.cells + n0 ∧ pm_sl g'.2.2.2.1 ≤ R.slots + s0) (kk : pm_W p l e R s m args below meth c Q b ad ca fc D nL n0 s0 g') : pm_W p l e R s m args below meth c Q b ad ca fc D nL n0 s0 (pc, ls, st, σ) := by
  obtain ⟨hx, hb, hml, hown, hts, hK, hEX, hC, h0, hnm, hfr, hlo, hSnd⟩ := F
  obtain ⟨as, rest, hp, hrc, hc⟩ := pm_callV_inv h
  obtain ⟨rv, σ', hfit, hE, ge⟩ := pm_call_inv hc
  cases ge
  have hgr := pm_E_gr d _ _ _ _ _ hE
  have g1 := hgr.1
  have g2 := hgr.2
  obtain ⟨pre, p1, p2, p3⟩ := pm_pop_eq _ _ _ _ _ hp
  rw [List.append_nil] at p3
  obtain ⟨i, as', rfl, hi⟩ : ∃ i as', as = (2, .ofNat i) :: as' ∧ ((z = 100 ∧ 2000 ≤ i ∧ i < 2010) ∨ (z ≠ 100 ∧ ∃ k, pm_get σ.1 i = some (0, z, k))) := by
    unfold pm_recv at hrc
    split at hrc
    · split at hrc
      · next hz => exact ⟨_, _, rfl, Or.inl ⟨hz, of_decide_eq_true hrc⟩⟩
      · next hz =>
        split at hrc
        · next hgt =>
          have := of_decide_eq_true hrc
          subst this
          exact ⟨_, _, rfl, Or.inr ⟨hz, _, hgt⟩⟩
        · cases hrc
    · cases hrc
  intro H locs rls cells slots h1 h2 h3 h4 h5 h6 h7 h8
  have h7 : cells + n0 = σ.1.length := h7
  have h8 : slots + s0 = pm_sl σ.1 := h8
  have hpre : pre = as'.reverse ++ [(2, .ofNat i)] := by
    have := congrArg List.reverse p3
    rw [List.reverse_reverse] at this
    rw [← this]; simp
  have ha : ∀ v ∈ (2, .ofNat i) :: as', pm_ok v := fun v hv => h6.2.1 v (by show v ∈ st; rw [p2]; rw [p3] at hv; exact List.mem_append_left _ (List.mem_reverse.mp hv))
  have hr : ∀ v ∈ rest, pm_ok v := fun v hv => h6.2.1 v (by show v ∈ st; rw [p2]; exact List.mem_append_right _ hv)
  have hMet := hSnd y n M _ σ rv σ' hM hg hE ha h6.2.2
  have hr1 : σ'.1.length ≤ R.cells + n0 := hroom.1
  have hr2 : pm_sl σ'.1 ≤ R.slots + s0 := hroom.2
  have hcell : ∃ cellB : Cell, H[pm_ad b ad i]? = some cellB ∧ cellB.vm.isStatics = false ∧ s.vm.findClass M.1.cls = some cellB.cls := by
    rcases hz with ⟨hz1, hz2⟩ | ⟨hz1, r, hz2, hz3⟩
    · rcases hi with ⟨-, hi1, hi2⟩ | ⟨hi1, -⟩
      · have hO := (hEX.2.2.1 (i - 2000) (by omega)).1
        rw [show 2000 + (i - 2000) = i by omega] at hO
        obtain ⟨cellB, q1, q2, q3⟩ := va_Orecv hO (pm_toS h0 h4 h5 h7 h3)
        refine ⟨cellB, ?_, q2, by rw [hz2]; exact q3⟩
        unfold pm_ad
        rw [if_neg (by omega)]
        exact q1
      · exact absurd hz1 hi1
    · rcases hi with ⟨hi1, -⟩ | ⟨-, k, hi2⟩
      · exact absurd hi1 hz1
      · obtain ⟨cellB, q1, q2, q3⟩ := va_recv hK h2 hz2 (pm_ws_at hi2)
        refine ⟨cellB, ?_, q2, by rw [← hz3]; exact q3⟩
        rw [pm_ad_lt (Nat.lt_of_lt_of_le (pm_get_lt hi2) h6.2.2.1.1)]
        exact q1
  obtain ⟨hb1, hb2⟩ := pm_pre (as := (2, .ofNat i) :: as') hK hEX h0 h2 h3 h4
  exact pm_back (as := as') hgr h0 (va_runV (C := M.1.cls) (As := as'.map (pm_val b ad)) ⟨hx, hb, hml, hown, hts⟩ hMet (cwV n hts (pm_wsV hg hl hs hse) rfl rfl rfl ⟨rfl, hg.2.2.1⟩ (pm_hR hg hfr hlo)) ⟨hb1, hcell, hb2⟩ rfl (by rw [hpre] at p1; simp at p1; simp [p1]) h1.1 (by show st.map (pm_val b ad) = _; rw [p2, hpre]; simp; rfl) (pm_room hfit) hd ⟨by omega, by omega⟩) h1 h4 h5 h6.1 hr h7 h8 kk
theorem pm_s_callI {idx y n : Nat} {M : pm_M} {g' : pm_F} (F : pm_Fx p l R s m args meth c b ad ca fc D nL n0 X T d cc own nm) (hM : pm_get T y = some M) (hg : pm_gm M n) (hin : M.1.name = "<init>") (hrt : M.2.2.2.1 = none) (hs : Cond.instanceMethod M.1 ∈ pm_U) (hl : Cond.methodLink own idx M.1 ∈ pm_U ∨ ∃ q ∈ pm_nst, q.1 = own ∧ q.2.1 = idx ∧ q.2.2.1 = M.1)
    (hd : decode cc pc = .ok (.invokespecial idx, 3)) (h : pm_callI (pm_E T X fc d) y n pc ls st σ = some (.inl g'))
    (hroom : g'.2.2.2.1.length ≤ R.cells + n0 ∧ pm_sl g'.2.2.2.1 ≤ R.slots + s0) (kk : pm_W p l e R s m args below meth c Q b ad ca fc D nL n0 s0 g') : pm_W p l e R s m args below meth c Q b ad ca fc D nL n0 s0 (pc, ls, st, σ) := by
  obtain ⟨hx, hb, hml, hown, hts, hK, hEX, hC, h0, hnm, hfr, hlo, hSnd⟩ := F
  obtain ⟨as, rest, hp, hrc, hc⟩ := pm_callI_inv h
  obtain ⟨rv, σ', hfit, hE, ge⟩ := pm_call_inv hc
  cases ge
  have hgr := pm_E_gr d _ _ _ _ _ hE
  have g1 := hgr.1
  have g2 := hgr.2
  obtain ⟨pre, p1, p2, p3⟩ := pm_pop_eq _ _ _ _ _ hp
  rw [List.append_nil] at p3
  obtain ⟨i, as', rfl⟩ : ∃ i as', as = (2, .ofNat i) :: as' := by
    unfold pm_ref0 at hrc
    split at hrc
    · exact ⟨_, _, rfl⟩
    · cases hrc
  intro H locs rls cells slots h1 h2 h3 h4 h5 h6 h7 h8
  have h7 : cells + n0 = σ.1.length := h7
  have h8 : slots + s0 = pm_sl σ.1 := h8
  have hpre : pre = as'.reverse ++ [(2, .ofNat i)] := by
    have := congrArg List.reverse p3
    rw [List.reverse_reverse] at this
    rw [← this]; simp
  have ha : ∀ v ∈ (2, .ofNat i) :: as', pm_ok v := fun v hv => h6.2.1 v (by show v ∈ st; rw [p2]; rw [p3] at hv; exact List.mem_append_left _ (List.mem_reverse.mp hv))
  have hr : ∀ v ∈ rest, pm_ok v := fun v hv => h6.2.1 v (by show v ∈ st; rw [p2]; exact List.mem_append_right _ hv)
  have hMet := hSnd y n M _ σ rv σ' hM hg hE ha h6.2.2
  have hr1 : σ'.1.length ≤ R.cells + n0 := hroom.1
  have hr2 : pm_sl σ'.1 ≤ R.slots + s0 := hroom.2
  have hpp := pm_pre (as := (2, .ofNat i) :: as') hK hEX h0 h2 h3 h4
  have hgood := goodU_cons hg.2.2.2.1
  rw [hrt] at hMet hgood
  rcases hl with hl | ⟨q, hq, hq1, hq2, hq3⟩
  · exact pm_back (as := as') hgr h0 (va_runI (As := as'.map (pm_val b ad)) ⟨hx, hb, hml, hown, hts⟩ hMet (cwI n hts hgood rfl rfl rfl (hts _ hg.2.2.2.2) (hts _ hl) (hts _ hs) hin hg.2.2.1 (pm_hR hg hfr hlo)) hpp rfl (by rw [hpre] at p1; simp at p1; simp [p1]) h1.1 (by show st.map (pm_val b ad) = _; rw [p2, hpre]; simp; rfl) (pm_room hfit) hd ⟨by omega, by omega⟩) h1 h4 h5 h6.1 hr h7 h8 kk
  · have hnw := hEX.2.2.2.2.1 q hq
    rw [hq1, hq2, hq3] at hnw
    exact pm_back (as := as') hgr h0 (va_runIN (host := q.2.2.2) (As := as'.map (pm_val b ad)) ⟨hx, hb, hml, hown, hts⟩ hMet ⟨va_cnB n hts hgood rfl rfl rfl hnw (hts _ hg.2.2.2.2) hg.2.2.1 (pm_hR hg hfr hlo), hin, hts _ hs⟩ hpp rfl (by rw [hpre] at p1; simp at p1; simp [p1]) h1.1 (by show st.map (pm_val b ad) = _; rw [p2, hpre]; simp; rfl) (pm_room hfit) hd ⟨by omega, by omega⟩) h1 h4 h5 h6.1 hr h7 h8 kk
end PMS
