/-! FIELDS, ARRAYS, STATICS -/
def pm_tys (ca : Nat → ClassId) : List (ClassId × FieldType) := [(ca 0, .int), (ca 1, .long), (ca 2, .boolean), (ca 3, .byte), (ca 4, .array .int), (ca 5, .array .long)]
def pm_fcOf : FieldType → Nat
  | .int => 0
  | .long => 1
  | .object _ => 2
  | .array _ => 2
  | .boolean => 3
  | _ => 7
def pm_CL (fc : pm_K) : Prop := ∀ (ci : Nat) (r : vw_C), vwCl[ci]? = some r → (∀ w ∈ u_ws r.1 r.2.1 r.2.2, w ∈ pm_U) ∧ (∀ a, a < r.2.2 → ∀ b, b < r.2.2 → a ≠ b → (r.2.1 a).2.1 ≠ (r.2.1 b).2.1) ∧
  ∃ ty : Nat → FieldType, (∀ k, k < r.2.2 → parseFieldDescriptor (r.2.1 k).2.2.1 = some (ty k)) ∧ ∀ k, k < r.2.2 → fc ci k = pm_fcOf (ty k) ∧ fc ci k ≤ 3
theorem pm_fits {b : Nat} {ad : Nat → Nat} {ty : FieldType} {v : pm_V} (h : pm_fcOf ty ≤ 3) (ht : v.1 = pm_tag (pm_fcOf ty)) (hb : pm_fcOf ty = 3 → v.2 = 0 ∨ v.2 = 1) : narrow ty (pm_val b ad v) = pm_val b ad v ∧ fits ty (pm_val b ad v) = true := by
  obtain ⟨t, z⟩ := v
  cases ty with
  | int => cases ht; exact ⟨rfl, rfl⟩
  | long => cases ht; exact ⟨rfl, rfl⟩
  | boolean =>
    cases ht
    have h0 : z = 0 ∨ z = 1 := hb rfl
    rcases h0 with rfl | rfl
    · exact ⟨rfl, rfl⟩
    · exact ⟨rfl, rfl⟩
  | object n => cases ht; cases z <;> exact ⟨rfl, rfl⟩
  | array t => cases ht; cases z <;> exact ⟨rfl, rfl⟩
  | _ => exact absurd h (by decide)
section PMH
variable {p : Program} {l : Launch} {e : Env} {R : Room} {s : State} {m : MethodId} {args : Array Value} {below : List Frame} {meth : Method} {c : Code} {Q : State → Prop}
variable {b : Nat} {ad : Nat → Nat} {ca : Nat → ClassId} {fc : pm_K} {D : va_G} {cc : ByteArray} {nL n0 s0 : Nat} {pc pc' : Nat} {ls st st' : List pm_V} {σ : pm_S} {H : Heap} {locs : List Loc} {cells slots : Nat}
theorem pm_toS (h0 : s.heap.size = b + n0) (h4 : ∀ q : Nat, q < b → H[q]? = s.heap[q]?) (h5 : ∀ q ∈ locs, b ≤ q.base) (h7 : cells + n0 = σ.1.length) (h3 : H.size = b + σ.1.length) : va_S (fun q => b ≤ q) s.heap H locs :=
  ⟨by omega, fun q h1 h2 => h4 q (by omega), h5⟩
theorem pm_ofS (h0 : s.heap.size = b + n0) (h : va_S (fun q => b ≤ q) s.heap H locs) : (∀ q : Nat, q < b → H[q]? = s.heap[q]?) ∧ ∀ q ∈ locs, b ≤ q.base :=
  ⟨fun q hq => h.2.1 q (by omega) (by omega), h.2.2⟩
theorem pm_size (h0 : s.heap.size = b + n0) (hP : va_P D vwCl (pm_ws b ad ca fc σ) H) (h7 : cells + n0 = σ.1.length) {T : State} (hT : T.heap = H) (X : Stand p l e R s m args below meth c T locs cells slots) : H.size = b + σ.1.length := by
  obtain ⟨-, h1, h2, -⟩ := X.same
  have e1 : (T.setVm s.vm).heap = H := hT
  rw [e1] at h1 h2
  have h3 : b + σ.1.length ≤ H.size := by
    cases hl : σ.1.length with
    | zero => omega
    | succ k =>
      have hk : ∃ sh, pm_get σ.1 k = some sh := by
        rw [pm_get_eq]
        exact ⟨σ.1[k]'(by omega), List.getElem?_eq_getElem _⟩
      obtain ⟨sh, hsh⟩ := hk
      have := (hP k _ (pm_ws_at hsh)).lt
      simp only at this
      omega
  omega
theorem pm_szW {g : JFrame} (h0 : s.heap.size = b + n0) (hP : va_P D vwCl (pm_ws b ad ca fc σ) H) (h7 : cells + n0 = σ.1.length) (k : H.size = b + σ.1.length → W p l e R s m args below meth c H locs cells slots Q g) : W p l e R s m args below meth c H locs cells slots Q g :=
  fun T hT X => k (pm_size h0 hP h7 hT X) T hT X
theorem pm_ad_lt {i : Nat} (h : i < 1000) : pm_ad b ad i = b + i := by unfold pm_ad; rw [if_pos h]
theorem pm_field_inv {a k f : Nat} {i : Nat} {z : Int} (h : pm_field a k f σ i = some z) : ∃ n, pm_get σ.1 i = some (0, a, n) ∧ k < n ∧ z = σ.2 i k := by
  unfold pm_field at h
  split at h
  · next ci n hg =>
    split at h
    · next hc => exact ⟨n, by rw [hg, hc.1], hc.2, (Option.some.inj h).symm⟩
    · cases h
  · cases h
theorem pm_getf_inv {a k f : Nat} {g : pm_F ⊕ pm_R} (h : pm_getf a k f pc ls st σ = some g) : ∃ i r n, st = (2, .ofNat i) :: r ∧ pm_get σ.1 i = some (0, a, n) ∧ k < n ∧ g = .inl (pc + 3, ls, (pm_tag f, σ.2 i k) :: r, σ) := by
  unfold pm_getf at h
  split at h
  · split at h
    · next hf =>
      obtain ⟨n, h1, h2, rfl⟩ := pm_field_inv hf
      exact ⟨_, _, n, rfl, h1, h2, pm_nx_inv h⟩
    · cases h
  · cases h
theorem pm_s_getf {own : String} {idx a k : Nat} {r : vw_C} {g : pm_F ⊕ pm_R} (hx : p.tables.exec = Jvm.exec) (hb : c.code = cc) (hts : ∀ w ∈ pm_U, w.before args s = true) (hown : s.vm.findClass own = some m.cls) (hK : va_K D vwCl (pm_tys ca) s) (hC : pm_CL fc)
    (hr : vwCl[a]? = some r) (hk : k < r.2.2) (hlink : Cond.fieldLink own idx (r.2.1 k).1 (r.2.1 k).2.1 (r.2.1 k).2.2.1 ∈ pm_U) (hd : decode cc pc = .ok (.getfield idx, 3)) (h : pm_getf a k (fc a k) pc ls st σ = some g)
    (kk : ∀ g', g = .inl g' → pm_W p l e R s m args below meth c Q b ad ca fc D nL n0 s0 g') : pm_W p l e R s m args below meth c Q b ad ca fc D nL n0 s0 (pc, ls, st, σ) := by
  obtain ⟨i, rest, n, rfl, hg, hkn, ge⟩ := pm_getf_inv h
  obtain ⟨c1, c2, ty, c3, c4⟩ := hC a r hr
  intro H locs rls cells slots h1 h2 h3 h4 h5 h6 h7 h8
  have hi : i < 1000 := Nat.lt_of_lt_of_le (pm_get_lt hg) h6.2.2.1.1
  have e1 : pm_val b ad (2, .ofNat i) = .ref (b + i) := by show Value.ref (pm_ad b ad i) = _; rw [pm_ad_lt hi]
  have hgood := h6.2.2.2 i _ hg k hkn
  have hw := pm_ws_at (b := b) (ad := ad) (ca := ca) (fc := fc) hg
  show W p l e R s m args below meth c H locs cells slots Q (F0 m pc rls (pm_val b ad (2, .ofNat i) :: rest.map (pm_val b ad)))
  rw [e1]
  refine va_get (C := r.1) (T := r.2.1) (N := r.2.2) hx hb hts c1 hown hK h2 i hw hr k hk (hts _ hlink) (fun x hx => hx) (v := pm_val b ad (pm_tag (fc a k), σ.2 i k)) ?_ hd ?_
  · simp [hkn]
  · exact kk _ ge H locs rls cells slots h1 h2 h3 h4 h5 ⟨h6.1, ok_c hgood.1 (ok1 h6.2.1).2, h6.2.2⟩ h7 h8
theorem pm_mok_up {i k : Nat} {sh : Nat × Nat × Nat} {v : Int} (h : pm_mok fc σ) (hs : pm_get σ.1 i = some sh) (hv : pm_good fc sh k v) : pm_mok fc (σ.1, pm_up σ.2 i k v) := by
  refine ⟨h.1, fun j sh' hj k' hk' => ?_⟩
  have h1 := h.2 j sh' hj k' hk'
  show pm_good fc sh' k' (if j = i ∧ k' = k then v else σ.2 j k')
  by_cases hc : j = i ∧ k' = k
  · rw [if_pos hc]
    obtain ⟨rfl, rfl⟩ := hc
    have hj' : pm_get σ.1 j = some sh' := hj
    rw [hs] at hj'
    cases hj'
    exact hv
  · rw [if_neg hc]
    exact h1
theorem pm_up_ne {μ : Nat → Nat → Int} {i k : Nat} {v : Int} : ∀ j, j ≠ i → ∀ k', pm_up μ i k v j k' = μ j k' := fun j hj k' => if_neg (fun h => hj h.1)
theorem pm_putf_inv {a k f : Nat} {g : pm_F ⊕ pm_R} (h : pm_putf a k f pc ls st σ = some g) : ∃ v i r n, st = (pm_tag f, v) :: (2, .ofNat i) :: r ∧ pm_get σ.1 i = some (0, a, n) ∧ k < n ∧ (f = 3 → v = 0 ∨ v = 1) ∧ g = .inl (pc + 3, ls, r, (σ.1, pm_up σ.2 i k v)) := by
  unfold pm_putf at h
  split at h
  · split at h
    · next hf =>
      obtain ⟨n, h1, h2, -⟩ := pm_field_inv hf
      split at h
      · next hc =>
        obtain ⟨rfl, hc2⟩ := hc
        exact ⟨_, _, _, n, rfl, h1, h2, hc2, pm_nx_inv h⟩
      · cases h
    · cases h
  · cases h
theorem pm_s_putf {own : String} {idx a k : Nat} {r : vw_C} {g : pm_F ⊕ pm_R} (hx : p.tables.exec = Jvm.exec) (hb : c.code = cc) (hts : ∀ w ∈ pm_U, w.before args s = true) (hown : s.vm.findClass own = some m.cls) (hK : va_K D vwCl (pm_tys ca) s) (hC : pm_CL fc) (h0 : s.heap.size = b + n0)
    (hr : vwCl[a]? = some r) (hk : k < r.2.2) (hlink : Cond.fieldLink own idx (r.2.1 k).1 (r.2.1 k).2.1 (r.2.1 k).2.2.1 ∈ pm_U) (hfin : (r.2.1 k).2.2.2 = false ∨ ((r.2.1 k).2.2.2 = true ∧ meth.name = "<init>" ∧ (r.2.1 k).1 = own)) (hd : decode cc pc = .ok (.putfield idx, 3)) (h : pm_putf a k (fc a k) pc ls st σ = some g)
    (kk : ∀ g', g = .inl g' → pm_W p l e R s m args below meth c Q b ad ca fc D nL n0 s0 g') : pm_W p l e R s m args below meth c Q b ad ca fc D nL n0 s0 (pc, ls, st, σ) := by
  obtain ⟨v, i, rest, n, rfl, hg, hkn, hv3, ge⟩ := pm_putf_inv h
  obtain ⟨c1, c2, ty, c3, c4⟩ := hC a r hr
  intro H locs rls cells slots h1 h2 h3 h4 h5 h6 h7 h8
  have hi : i < 1000 := Nat.lt_of_lt_of_le (pm_get_lt hg) h6.2.2.1.1
  have e1 : pm_val b ad (2, .ofNat i) = .ref (b + i) := by show Value.ref (pm_ad b ad i) = _; rw [pm_ad_lt hi]
  have hw := pm_ws_at (b := b) (ad := ad) (ca := ca) (fc := fc) hg
  obtain ⟨f1, f2⟩ := c4 k hk
  have hnf := pm_fits (b := b) (ad := ad) (ty := ty k) (v := (pm_tag (fc a k), v)) (by rw [← f1]; exact f2) (by rw [f1]) (fun q => hv3 (by rw [f1]; exact q))
  have hgood : pm_good fc (0, a, n) k v := ⟨(ok2 h6.2.1).1, hv3⟩
  have hcell : pm_cell b ad ca fc (pm_up σ.2 i k v) i (0, a, n) = .inr (a, ((List.range n).map fun k' => pm_val b ad (pm_tag (fc a k'), σ.2 i k')).set k (pm_val b ad (pm_tag (fc a k), v))) := by
    show Sum.inr (a, _) = _
    congr 2
    apply List.ext_getElem?
    intro j
    by_cases hj : j = k
    · subst hj
      rw [List.getElem?_set_self (by simp [hkn])]
      simp [hkn, pm_up]
    · rw [List.getElem?_set_ne (Ne.symm hj)]
      simp only [List.getElem?_map]
      by_cases hjn : j < n
      · rw [List.getElem?_range hjn]
        simp [pm_up, hj]
      · rw [List.getElem?_eq_none (by simp; omega)]
        rfl
  have next : ∀ (H1 : Heap) (locs1 : List Loc), va_P D vwCl ((pm_ws b ad ca fc σ).set i (b + i, .inr (a, ((List.range n).map fun k' => pm_val b ad (pm_tag (fc a k'), σ.2 i k')).set k (pm_val b ad (pm_tag (fc a k), v))))) H1 → va_S (fun q => b ≤ q) s.heap H1 locs1 →
      W p l e R s m args below meth c H1 locs1 cells slots Q (F0 m (pc + 3) rls (rest.map (pm_val b ad))) := by
    intro H1 locs1 hP1 hS1
    rw [← hcell, pm_ws_set (L := σ.1) (μ := σ.2) hg pm_up_ne] at hP1
    obtain ⟨q1, q2⟩ := pm_ofS h0 hS1
    refine pm_szW h0 hP1 h7 (fun hz => ?_)
    exact kk _ ge H1 locs1 rls cells slots h1 hP1 hz q1 q2 ⟨h6.1, (ok2 h6.2.1).2.2, pm_mok_up h6.2.2 hg hgood⟩ h7 h8
  show W p l e R s m args below meth c H locs cells slots Q (F0 m pc rls (pm_val b ad (pm_tag (fc a k), v) :: pm_val b ad (2, .ofNat i) :: rest.map (pm_val b ad)))
  rw [e1]
  have hS := pm_toS h0 h4 h5 h7 h3
  have hl : k < ((List.range n).map fun k' => pm_val b ad (pm_tag (fc a k'), σ.2 i k')).length := by simp [hkn]
  rcases hfin with hf | ⟨hf, hin, hde⟩
  · exact va_put (C := r.1) (T := r.2.1) (N := r.2.2) hx hb hts c1 ty c3 c2 hown hK h2 (pm_D b ad ca fc σ) hS i hw hr k hk (hts _ hlink) (fun x hx => hx) hf (c3 k hk) hnf.1 hnf.2 hl hd (fun H1 locs1 hP1 _ hS1 => next H1 locs1 hP1 hS1)
  · exact va_putF (C := r.1) (T := r.2.1) (N := r.2.2) hx hb hts c1 ty c3 c2 hown hK h2 (pm_D b ad ca fc σ) hS i hw hr k hk (hts _ hlink) (fun x hx => hx) hf hin hde (c3 k hk) hnf.1 hnf.2 hl hd (fun H1 locs1 hP1 _ hS1 => next H1 locs1 hP1 hS1)
/-! ### arrays -/
def pm_ety : Nat → FieldType
  | 0 => .int
  | 1 => .long
  | 2 => .boolean
  | 3 => .byte
  | 4 => .array .int
  | _ => .array .long
/-- the arrays that are not ours: of the statics, the script, the texts' bytes -/
def pm_XT (b : Nat) (ad : Nat → Nat) (X : pm_X) (U : State) (H : Heap) : Prop := ∀ j t n f, X j = some (t, n, f) → (t = 0 ∨ t = 3) ∧ n < 2147483648 ∧ va_T (pm_ety t) (ad (1000 + j)) n (fun k => .int (Int32.ofInt (f k))) (fun q => b ≤ q) U H ∧ ∀ k, k < n → pm_ok (0, f k)
theorem pm_aload_inv {X : pm_X} {t0 t : Nat} {g : pm_F ⊕ pm_R} (h : pm_aload X t0 t pc ls st σ = some g) : ∃ k i r n f, st = (0, k) :: (2, .ofNat i) :: r ∧ pm_arr X σ i = some (t0, n, f) ∧ 0 ≤ k ∧ k < (n : Int) ∧ g = .inl (pc + 1, ls, (t, f k.toNat) :: r, σ) := by
  unfold pm_aload at h
  split at h
  · split at h
    · next hf =>
      split at h
      · next he =>
        subst he
        split at h
        · next hc => exact ⟨_, _, _, _, _, rfl, hf, hc.1, hc.2, pm_nx_inv h⟩
        · cases h
      · cases h
    · cases h
  · cases h
theorem pm_arr_inv {X : pm_X} {i t n : Nat} {f : Nat → Int} (h : pm_arr X σ i = some (t, n, f)) : (1000 ≤ i ∧ X (i - 1000) = some (t, n, f)) ∨ (i < 1000 ∧ pm_get σ.1 i = some (1, t, n) ∧ f = σ.2 i) := by
  unfold pm_arr at h
  split at h
  · next hi => exact Or.inl ⟨hi, h⟩
  · next hi =>
    split at h
    · next hg => cases h; exact Or.inr ⟨by omega, hg, rfl⟩
    · cases h
theorem pm_val_ext {i : Nat} (h : 1000 ≤ i) : pm_val b ad (2, .ofNat i) = .ref (ad (1000 + (i - 1000))) := by
  show Value.ref (pm_ad b ad i) = _
  unfold pm_ad
  rw [if_neg (by omega), show 1000 + (i - 1000) = i by omega]
theorem pm_val_own {i : Nat} (h : i < 1000) : pm_val b ad (2, .ofNat i) = .ref (b + i) := by
  show Value.ref (pm_ad b ad i) = _
  rw [pm_ad_lt h]
theorem pm_idx {k : Int} {n : Nat} (h0 : 0 ≤ k) (hn : k < (n : Int)) (hk : pm_ok (0, k)) : vp_in (Int32.ofInt k) n ∧ (Int32.ofInt k).toNatClampNeg = k.toNat := ⟨i32_vp h0 hn hk.2, i32_nat h0 hk.2⟩
theorem pm_s_iald {X : pm_X} {g : pm_F ⊕ pm_R} (hx : p.tables.exec = Jvm.exec) (hb : c.code = cc) (hK : va_K D vwCl (pm_tys ca) s) (h0 : s.heap.size = b + n0) (hX : pm_XT b ad X s s.heap) (hd : decode cc pc = .ok (.iaload, 1)) (h : pm_aload X 0 0 pc ls st σ = some g)
    (kk : ∀ g', g = .inl g' → pm_W p l e R s m args below meth c Q b ad ca fc D nL n0 s0 g') : pm_W p l e R s m args below meth c Q b ad ca fc D nL n0 s0 (pc, ls, st, σ) := by
  obtain ⟨k, i, rest, n, f, rfl, ha, hk0, hkn, ge⟩ := pm_aload_inv h
  intro H locs rls cells slots h1 h2 h3 h4 h5 h6 h7 h8
  obtain ⟨e1, e2⟩ := pm_idx hk0 hkn (ok2 h6.2.1).1
  show W p l e R s m args below meth c H locs cells slots Q (F0 m pc rls (.int (Int32.ofInt k) :: pm_val b ad (2, .ofNat i) :: rest.map (pm_val b ad)))
  rcases pm_arr_inv ha with ⟨hi, hf⟩ | ⟨hi, hf, rfl⟩
  · obtain ⟨-, hn, hT, hok⟩ := hX _ _ _ _ hf
    rw [pm_val_ext hi]
    refine va_ti hx hb hT (pm_toS h0 h4 h5 h7 h3) e1 rfl hd ?_
    rw [e2]
    exact kk _ ge H locs rls cells slots h1 h2 h3 h4 h5 ⟨h6.1, ok_c (hok _ (by omega)) (ok2 h6.2.1).2.2, h6.2.2⟩ h7 h8
  · rw [pm_val_own hi]
    refine va_iald hx hb hK h2 i 0 (pm_ws_at hf) rfl e1 hd ?_
    rw [e2]
    exact kk _ ge H locs rls cells slots h1 h2 h3 h4 h5 ⟨h6.1, ok_c (h6.2.2.2 i _ hf k.toNat (by show k.toNat < n; omega)) (ok2 h6.2.1).2.2, h6.2.2⟩ h7 h8
theorem pm_s_lald {X : pm_X} {g : pm_F ⊕ pm_R} (hx : p.tables.exec = Jvm.exec) (hb : c.code = cc) (hK : va_K D vwCl (pm_tys ca) s) (hX : pm_XT b ad X s s.heap) (hd : decode cc pc = .ok (.laload, 1)) (h : pm_aload X 1 1 pc ls st σ = some g)
    (kk : ∀ g', g = .inl g' → pm_W p l e R s m args below meth c Q b ad ca fc D nL n0 s0 g') : pm_W p l e R s m args below meth c Q b ad ca fc D nL n0 s0 (pc, ls, st, σ) := by
  obtain ⟨k, i, rest, n, f, rfl, ha, hk0, hkn, ge⟩ := pm_aload_inv h
  intro H locs rls cells slots h1 h2 h3 h4 h5 h6 h7 h8
  obtain ⟨e1, e2⟩ := pm_idx hk0 hkn (ok2 h6.2.1).1
  show W p l e R s m args below meth c H locs cells slots Q (F0 m pc rls (.int (Int32.ofInt k) :: pm_val b ad (2, .ofNat i) :: rest.map (pm_val b ad)))
  rcases pm_arr_inv ha with ⟨hi, hf⟩ | ⟨hi, hf, rfl⟩
  · obtain ⟨h9, -⟩ := hX _ _ _ _ hf
    omega
  · rw [pm_val_own hi]
    refine va_lald hx hb hK h2 i 1 (pm_ws_at hf) rfl e1 hd ?_
    rw [e2]
    exact kk _ ge H locs rls cells slots h1 h2 h3 h4 h5 ⟨h6.1, ok_c (h6.2.2.2 i _ hf k.toNat (by show k.toNat < n; omega)) (ok2 h6.2.1).2.2, h6.2.2⟩ h7 h8
theorem pm_baload_inv {X : pm_X} {g : pm_F ⊕ pm_R} (h : pm_baload X pc ls st σ = some g) : ∃ k i r n f, st = (0, k) :: (2, .ofNat i) :: r ∧ pm_arr X σ i = some (pm_bk i, n, f) ∧ 0 ≤ k ∧ k < (n : Int) ∧ g = .inl (pc + 1, ls, (0, f k.toNat) :: r, σ) := by
  unfold pm_baload at h
  split at h
  · split at h
    · next hf =>
      split at h
      · next he =>
        rw [he] at hf
        split at h
        · next hc => exact ⟨_, _, _, _, _, rfl, hf, hc.1, hc.2, pm_nx_inv h⟩
        · cases h
      · cases h
    · cases h
  · cases h
theorem pm_s_bald {X : pm_X} {g : pm_F ⊕ pm_R} (hx : p.tables.exec = Jvm.exec) (hb : c.code = cc) (hK : va_K D vwCl (pm_tys ca) s) (h0 : s.heap.size = b + n0) (hX : pm_XT b ad X s s.heap) (hd : decode cc pc = .ok (.baload, 1)) (h : pm_baload X pc ls st σ = some g)
    (kk : ∀ g', g = .inl g' → pm_W p l e R s m args below meth c Q b ad ca fc D nL n0 s0 g') : pm_W p l e R s m args below meth c Q b ad ca fc D nL n0 s0 (pc, ls, st, σ) := by
  obtain ⟨k, i, rest, n, f, rfl, ha, hk0, hkn, ge⟩ := pm_baload_inv h
  intro H locs rls cells slots h1 h2 h3 h4 h5 h6 h7 h8
  obtain ⟨e1, e2⟩ := pm_idx hk0 hkn (ok2 h6.2.1).1
  show W p l e R s m args below meth c H locs cells slots Q (F0 m pc rls (.int (Int32.ofInt k) :: pm_val b ad (2, .ofNat i) :: rest.map (pm_val b ad)))
  rcases pm_arr_inv ha with ⟨hi, hf⟩ | ⟨hi, hf, rfl⟩
  · rw [show pm_bk i = 3 from if_pos hi] at hf
    obtain ⟨-, hn, hT, hok⟩ := hX _ _ _ _ hf
    rw [pm_val_ext hi]
    refine va_tb hx hb hT (pm_toS h0 h4 h5 h7 h3) e1 rfl hd ?_
    rw [e2]
    exact kk _ ge H locs rls cells slots h1 h2 h3 h4 h5 ⟨h6.1, ok_c (hok _ (by omega)) (ok2 h6.2.1).2.2, h6.2.2⟩ h7 h8
  · rw [show pm_bk i = 2 from if_neg (by omega)] at hf
    rw [pm_val_own hi]
    refine va_zald hx hb hK h2 i 2 (pm_ws_at hf) rfl e1 hd ?_
    rw [e2]
    have hg : σ.2 i k.toNat = 0 ∨ σ.2 i k.toNat = 1 := h6.2.2.2 i _ hf k.toNat (by show k.toNat < n; omega)
    exact kk _ ge H locs rls cells slots h1 h2 h3 h4 h5 ⟨h6.1, ok_c (by show -2147483648 ≤ σ.2 i k.toNat ∧ σ.2 i k.toNat < 2147483648; omega) (ok2 h6.2.1).2.2, h6.2.2⟩ h7 h8
theorem pm_aald_inv {g : pm_F ⊕ pm_R} (h : pm_aald pc ls st σ = some g) : ∃ k i r n t, st = (0, k) :: (2, .ofNat i) :: r ∧ pm_get σ.1 i = some (1, t, n) ∧ (t = 4 ∨ t = 5) ∧ 0 ≤ k ∧ k < (n : Int) ∧ g = .inl (pc + 1, ls, (2, σ.2 i k.toNat) :: r, σ) := by
  unfold pm_aald at h
  split at h
  · split at h
    · next hf =>
      split at h
      · next he =>
        split at h
        · next hc => exact ⟨_, _, _, _, _, rfl, hf, he, hc.1, hc.2, pm_nx_inv h⟩
        · cases h
      · cases h
    · cases h
  · cases h
theorem pm_s_aald {g : pm_F ⊕ pm_R} (hx : p.tables.exec = Jvm.exec) (hb : c.code = cc) (hK : va_K D vwCl (pm_tys ca) s) (hd : decode cc pc = .ok (.aaload, 1)) (h : pm_aald pc ls st σ = some g)
    (kk : ∀ g', g = .inl g' → pm_W p l e R s m args below meth c Q b ad ca fc D nL n0 s0 g') : pm_W p l e R s m args below meth c Q b ad ca fc D nL n0 s0 (pc, ls, st, σ) := by
  obtain ⟨k, i, rest, n, t, rfl, ha, ht, hk0, hkn, ge⟩ := pm_aald_inv h
  intro H locs rls cells slots h1 h2 h3 h4 h5 h6 h7 h8
  obtain ⟨e1, e2⟩ := pm_idx hk0 hkn (ok2 h6.2.1).1
  show W p l e R s m args below meth c H locs cells slots Q (F0 m pc rls (.int (Int32.ofInt k) :: pm_val b ad (2, .ofNat i) :: rest.map (pm_val b ad)))
  have hi : i < 1000 := Nat.lt_of_lt_of_le (pm_get_lt ha) h6.2.2.1.1
  rw [pm_val_own hi]
  have hw := h2 i _ (pm_ws_at ha)
  have hlt : k.toNat < n := by omega
  have last := kk _ ge H locs rls cells slots h1 h2 h3 h4 h5 ⟨h6.1, ok_c trivial (ok2 h6.2.1).2.2, h6.2.2⟩ h7 h8
  have hw2 : H[b + i]? = some (arrV (ca t) n (fun j => va_rf (pm_rf b ad (σ.2 i j)))) := by
    rcases ht with rfl | rfl
    · exact hw
    · exact hw
  have hty : ArrOfT s (ca t) (pm_ety t) ∧ (pm_ety t).isReference = true := by
    rcases ht with rfl | rfl
    · exact ⟨(hK.2 4 _ rfl).1, rfl⟩
    · exact ⟨(hK.2 5 _ rfl).1, rfl⟩
  refine W.aald (v := pm_val b ad (2, σ.2 i k.toNat)) (ty := pm_ety t) hx hb hw2 (hty.1 n _) hty.2 (fun q => by cases q) (by rw [arrV_size]; exact e1) ?_ rfl rfl hd last
  rw [e2, arrV_read _ _ hlt, pm_rf_val]
theorem pm_astore_inv {t0 t : Nat} {g : pm_F ⊕ pm_R} (h : pm_astore t0 t pc ls st σ = some g) : ∃ v k i r n, st = (t, v) :: (0, k) :: (2, .ofNat i) :: r ∧ pm_get σ.1 i = some (1, t0, n) ∧ (t0 = 2 → v = 0 ∨ v = 1) ∧ 0 ≤ k ∧ k < (n : Int) ∧ g = .inl (pc + 1, ls, r, (σ.1, pm_up σ.2 i k.toNat v)) := by
  unfold pm_astore at h
  split at h
  · split at h
    · next hf =>
      split at h
      · next he =>
        obtain ⟨rfl, rfl, h3⟩ := he
        split at h
        · next hc => exact ⟨_, _, _, _, _, rfl, hf, h3, hc.1, hc.2, pm_nx_inv h⟩
        · cases h
      · cases h
    · cases h
  · cases h
theorem ok3 {P : pm_V → Prop} {x y z : pm_V} {r : List pm_V} (h : ∀ v ∈ x :: y :: z :: r, P v) : P x ∧ P y ∧ P z ∧ ∀ v ∈ r, P v := ⟨h _ (by simp), h _ (by simp), h _ (by simp), fun v hv => h v (by simp [hv])⟩
theorem pm_s_iast {g : pm_F ⊕ pm_R} (hx : p.tables.exec = Jvm.exec) (hb : c.code = cc) (hK : va_K D vwCl (pm_tys ca) s) (h0 : s.heap.size = b + n0) (hd : decode cc pc = .ok (.iastore, 1)) (h : pm_astore 0 0 pc ls st σ = some g)
    (kk : ∀ g', g = .inl g' → pm_W p l e R s m args below meth c Q b ad ca fc D nL n0 s0 g') : pm_W p l e R s m args below meth c Q b ad ca fc D nL n0 s0 (pc, ls, st, σ) := by
  obtain ⟨v, k, i, rest, n, rfl, ha, -, hk0, hkn, ge⟩ := pm_astore_inv h
  intro H locs rls cells slots h1 h2 h3 h4 h5 h6 h7 h8
  obtain ⟨k1, k2, k3, k4⟩ := ok3 h6.2.1
  obtain ⟨e1, e2⟩ := pm_idx hk0 hkn k2
  show W p l e R s m args below meth c H locs cells slots Q (F0 m pc rls (.int (Int32.ofInt v) :: .int (Int32.ofInt k) :: pm_val b ad (2, .ofNat i) :: rest.map (pm_val b ad)))
  have hi : i < 1000 := Nat.lt_of_lt_of_le (pm_get_lt ha) h6.2.2.1.1
  rw [pm_val_own hi]
  refine va_iast hx hb hK h2 (pm_D b ad ca fc σ) (pm_toS h0 h4 h5 h7 h3) i 0 (pm_ws_at ha) rfl e1 hd (fun H1 locs1 hP1 _ hS1 => ?_)
  have hcell : pm_cell b ad ca fc (pm_up σ.2 i k.toNat v) i (1, 0, n) = .inl (ca 0, n, .inl (upd (fun j => Int32.ofInt (σ.2 i j)) (Int32.ofInt k).toNatClampNeg (Int32.ofInt v))) := by
    show Sum.inl (ca 0, n, Sum.inl _) = _
    congr 4
    funext j
    rw [e2]
    by_cases hj : j = k.toNat
    · simp [upd, pm_up, hj]
    · simp [upd, pm_up, hj]
  rw [← hcell, pm_ws_set (L := σ.1) (μ := σ.2) ha pm_up_ne] at hP1
  obtain ⟨q1, q2⟩ := pm_ofS h0 hS1
  refine pm_szW h0 hP1 h7 (fun hz => ?_)
  exact kk _ ge H1 locs1 rls cells slots h1 hP1 hz q1 q2 ⟨h6.1, k4, pm_mok_up h6.2.2 ha k1⟩ h7 h8
theorem pm_s_last {g : pm_F ⊕ pm_R} (hx : p.tables.exec = Jvm.exec) (hb : c.code = cc) (hK : va_K D vwCl (pm_tys ca) s) (h0 : s.heap.size = b + n0) (hd : decode cc pc = .ok (.lastore, 1)) (h : pm_astore 1 1 pc ls st σ = some g)
    (kk : ∀ g', g = .inl g' → pm_W p l e R s m args below meth c Q b ad ca fc D nL n0 s0 g') : pm_W p l e R s m args below meth c Q b ad ca fc D nL n0 s0 (pc, ls, st, σ) := by
  obtain ⟨v, k, i, rest, n, rfl, ha, -, hk0, hkn, ge⟩ := pm_astore_inv h
  intro H locs rls cells slots h1 h2 h3 h4 h5 h6 h7 h8
  obtain ⟨k1, k2, k3, k4⟩ := ok3 h6.2.1
  obtain ⟨e1, e2⟩ := pm_idx hk0 hkn k2
  show W p l e R s m args below meth c H locs cells slots Q (F0 m pc rls (.long (Int64.ofInt v) :: .int (Int32.ofInt k) :: pm_val b ad (2, .ofNat i) :: rest.map (pm_val b ad)))
  have hi : i < 1000 := Nat.lt_of_lt_of_le (pm_get_lt ha) h6.2.2.1.1
  rw [pm_val_own hi]
  refine va_last hx hb hK h2 (pm_D b ad ca fc σ) (pm_toS h0 h4 h5 h7 h3) i 1 (pm_ws_at ha) rfl e1 hd (fun H1 locs1 hP1 _ hS1 => ?_)
  have hcell : pm_cell b ad ca fc (pm_up σ.2 i k.toNat v) i (1, 1, n) = .inl (ca 1, n, .inr (.inl (vp_updL (fun j => Int64.ofInt (σ.2 i j)) (Int32.ofInt k).toNatClampNeg (Int64.ofInt v)))) := by
    show Sum.inl (ca 1, n, Sum.inr (Sum.inl _)) = _
    congr 5
    funext j
    rw [e2]
    by_cases hj : j = k.toNat
    · simp [vp_updL, pm_up, hj]
    · simp [vp_updL, pm_up, hj]
  rw [← hcell, pm_ws_set (L := σ.1) (μ := σ.2) ha pm_up_ne] at hP1
  obtain ⟨q1, q2⟩ := pm_ofS h0 hS1
  refine pm_szW h0 hP1 h7 (fun hz => ?_)
  exact kk _ ge H1 locs1 rls cells slots h1 hP1 hz q1 q2 ⟨h6.1, k4, pm_mok_up h6.2.2 ha k1⟩ h7 h8
theorem pm_s_bast {g : pm_F ⊕ pm_R} (hx : p.tables.exec = Jvm.exec) (hb : c.code = cc) (hK : va_K D vwCl (pm_tys ca) s) (h0 : s.heap.size = b + n0) (hd : decode cc pc = .ok (.bastore, 1)) (h : pm_astore 2 0 pc ls st σ = some g)
    (kk : ∀ g', g = .inl g' → pm_W p l e R s m args below meth c Q b ad ca fc D nL n0 s0 g') : pm_W p l e R s m args below meth c Q b ad ca fc D nL n0 s0 (pc, ls, st, σ) := by
  obtain ⟨v, k, i, rest, n, rfl, ha, hv, hk0, hkn, ge⟩ := pm_astore_inv h
  intro H locs rls cells slots h1 h2 h3 h4 h5 h6 h7 h8
  obtain ⟨k1, k2, k3, k4⟩ := ok3 h6.2.1
  obtain ⟨e1, e2⟩ := pm_idx hk0 hkn k2
  show W p l e R s m args below meth c H locs cells slots Q (F0 m pc rls (.int (Int32.ofInt v) :: .int (Int32.ofInt k) :: pm_val b ad (2, .ofNat i) :: rest.map (pm_val b ad)))
  have hi : i < 1000 := Nat.lt_of_lt_of_le (pm_get_lt ha) h6.2.2.1.1
  rw [pm_val_own hi]
  refine va_zast hx hb hK h2 (pm_D b ad ca fc σ) (pm_toS h0 h4 h5 h7 h3) i 2 (pm_ws_at ha) rfl e1 hd (fun H1 locs1 hP1 _ hS1 => ?_)
  have hvn : vp_nar .boolean (Int32.ofInt v) = Int32.ofInt v := by
    rcases hv rfl with rfl | rfl
    · rfl
    · rfl
  have hcell : pm_cell b ad ca fc (pm_up σ.2 i k.toNat v) i (1, 2, n) = .inl (ca 2, n, .inl (upd (fun j => Int32.ofInt (σ.2 i j)) (Int32.ofInt k).toNatClampNeg (vp_nar .boolean (Int32.ofInt v)))) := by
    show Sum.inl (ca 2, n, Sum.inl _) = _
    congr 4
    funext j
    rw [e2, hvn]
    by_cases hj : j = k.toNat
    · simp [upd, pm_up, hj]
    · simp [upd, pm_up, hj]
  rw [← hcell, pm_ws_set (L := σ.1) (μ := σ.2) ha pm_up_ne] at hP1
  obtain ⟨q1, q2⟩ := pm_ofS h0 hS1
  refine pm_szW h0 hP1 h7 (fun hz => ?_)
  exact kk _ ge H1 locs1 rls cells slots h1 hP1 hz q1 q2 ⟨h6.1, k4, pm_mok_up h6.2.2 ha (hv rfl)⟩ h7 h8
theorem pm_alen_inv {X : pm_X} {g : pm_F ⊕ pm_R} (h : pm_alen X pc ls st σ = some g) : ∃ i r t n f, st = (2, .ofNat i) :: r ∧ pm_arr X σ i = some (t, n, f) ∧ g = .inl (pc + 1, ls, (0, (n : Int)) :: r, σ) := by
  unfold pm_alen at h
  split at h
  · split at h
    · next hf => exact ⟨_, _, _, _, _, rfl, hf, pm_nx_inv h⟩
    · cases h
  · cases h
theorem pm_arr_cell (t n : Nat) (ht : t ≤ 5) (μ : Nat → Nat → Int) (i : Nat) : ∃ x : vp_A, x.1 = n ∧ pm_cell b ad ca fc μ i (1, t, n) = .inl (ca t, x) ∧ (pm_tys ca)[t]? = some (ca t, pm_ety t) := by
  match t, ht with
  | 0, _ => exact ⟨_, rfl, rfl, rfl⟩
  | 1, _ => exact ⟨_, rfl, rfl, rfl⟩
  | 2, _ => exact ⟨_, rfl, rfl, rfl⟩
  | 3, _ => exact ⟨_, rfl, rfl, rfl⟩
  | 4, _ => exact ⟨_, rfl, rfl, rfl⟩
  | 5, _ => exact ⟨_, rfl, rfl, rfl⟩
theorem pm_s_alen {X : pm_X} {g : pm_F ⊕ pm_R} (hx : p.tables.exec = Jvm.exec) (hb : c.code = cc) (hK : va_K D vwCl (pm_tys ca) s) (h0 : s.heap.size = b + n0) (hX : pm_XT b ad X s s.heap) (hd : decode cc pc = .ok (.arraylength, 1)) (h : pm_alen X pc ls st σ = some g)
    (kk : ∀ g', g = .inl g' → pm_W p l e R s m args below meth c Q b ad ca fc D nL n0 s0 g') : pm_W p l e R s m args below meth c Q b ad ca fc D nL n0 s0 (pc, ls, st, σ) := by
  obtain ⟨i, rest, t, n, f, rfl, ha, ge⟩ := pm_alen_inv h
  intro H locs rls cells slots h1 h2 h3 h4 h5 h6 h7 h8
  show W p l e R s m args below meth c H locs cells slots Q (F0 m pc rls (pm_val b ad (2, .ofNat i) :: rest.map (pm_val b ad)))
  have en : Int32.ofNat n = Int32.ofInt (n : Int) := rfl
  rcases pm_arr_inv ha with ⟨hi, hf⟩ | ⟨hi, hf, rfl⟩
  · obtain ⟨-, hn, hT, hok⟩ := hX _ _ _ _ hf
    rw [pm_val_ext hi]
    refine va_tlen hx hb hT (pm_toS h0 h4 h5 h7 h3) en hd ?_
    exact kk _ ge H locs rls cells slots h1 h2 h3 h4 h5 ⟨h6.1, ok_c (by show -2147483648 ≤ (n : Int) ∧ (n : Int) < 2147483648; omega) (ok1 h6.2.1).2, h6.2.2⟩ h7 h8
  · rw [pm_val_own hi]
    obtain ⟨ht, hn⟩ := h6.2.2.1.2 i _ hf (fun q => Nat.one_ne_zero q)
    have ht : t ≤ 5 := ht
    have hn : n < 2147483648 := hn
    obtain ⟨x, hx1, hx2, hx3⟩ := pm_arr_cell (b := b) (ad := ad) (ca := ca) (fc := fc) t n ht σ.2 i
    have hw := pm_ws_at (b := b) (ad := ad) (ca := ca) (fc := fc) hf
    rw [hx2] at hw
    refine va_alen hx hb hK h2 i t hw hx3 (by rw [hx1]) hd ?_
    exact kk _ ge H locs rls cells slots h1 h2 h3 h4 h5 ⟨h6.1, ok_c (by show -2147483648 ≤ (n : Int) ∧ (n : Int) < 2147483648; omega) (ok1 h6.2.1).2, h6.2.2⟩ h7 h8
end PMH
