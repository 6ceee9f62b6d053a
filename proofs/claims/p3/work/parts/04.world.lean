/-! THE WORLD: how the pure machine's state stands in the heap. Every cell from 'b' on is ours; cell i lies at b + i. -/
def pm_ad (b : Nat) (ad : Nat → Nat) (n : Nat) : Nat := if n < 1000 then b + n else ad n
def pm_val (b : Nat) (ad : Nat → Nat) : pm_V → Value
  | (0, z) => .int (Int32.ofInt z)
  | (1, z) => .long (Int64.ofInt z)
  | (2, .ofNat n) => .ref (pm_ad b ad n)
  | _ => .null
def pm_rf (b : Nat) (ad : Nat → Nat) : Int → Option Nat
  | .ofNat n => some (pm_ad b ad n)
  | _ => none
theorem pm_rf_val (b : Nat) (ad : Nat → Nat) (z : Int) : va_rf (pm_rf b ad z) = pm_val b ad (2, z) := by
  cases z <;> rfl
def pm_ok : pm_V → Prop
  | (0, z) => -2147483648 ≤ z ∧ z < 2147483648
  | (1, z) => -9223372036854775808 ≤ z ∧ z < 9223372036854775808
  | _ => True
theorem pm_cat (b : Nat) (ad : Nat → Nat) (v : pm_V) (h : v.1 ≠ 1) : (pm_val b ad v).category = 1 := by
  obtain ⟨t, z⟩ := v
  match t, z, h with
  | 0, z, h => rfl
  | 1, z, h => exact absurd rfl h
  | 2, .ofNat n, h => rfl
  | 2, .negSucc n, h => rfl
  | t + 3, z, h => cases z <;> rfl
theorem pm_cat2 (b : Nat) (ad : Nat → Nat) (v : pm_V) : (pm_val b ad v).category = 2 ↔ v.1 = 1 := by
  constructor
  · intro h
    rcases Nat.decEq v.1 1 with q | q
    · rw [pm_cat b ad v q] at h; cases h
    · exact q
  · intro h
    obtain ⟨t, z⟩ := v
    cases h
    rfl
theorem pm_catle (b : Nat) (ad : Nat → Nat) (v : pm_V) : (pm_val b ad v).category ≤ 2 := by
  rcases Nat.decEq v.1 1 with q | q
  · rw [pm_cat b ad v q]; omega
  · rw [(pm_cat2 b ad v).mpr q]; omega
theorem pm_fit_le (b : Nat) (ad : Nat → Nat) : ∀ (n : Nat) (l : List pm_V), pm_fit n l = true → ((l.map (pm_val b ad)).map fun v => v.category).sum ≤ 2 * n
  | _, [], _ => by simp
  | 0, _ :: _, h => by cases h
  | n + 1, v :: l, h => by
    have h1 := pm_fit_le b ad n l h
    have h2 := pm_catle b ad v
    simp only [List.map_cons, List.sum_cons] at h1 ⊢
    omega
/-- the locals that are known, by their places -/
def pm_lv (b : Nat) (ad : Nat → Nat) : Nat → List pm_V → List (Nat × Value)
  | _, [] => []
  | i, v :: l => if v.1 ≤ 2 then (i, pm_val b ad v) :: pm_lv b ad (i + 1) l else pm_lv b ad (i + 1) l
theorem pm_lv_mem (b : Nat) (ad : Nat → Nat) : ∀ (i0 : Nat) (l : List pm_V) (q : Nat × Value), q ∈ pm_lv b ad i0 l ↔ ∃ j v, pm_get l j = some v ∧ v.1 ≤ 2 ∧ q = (i0 + j, pm_val b ad v)
  | i0, [], q => by simp [pm_lv, pm_get]
  | i0, v :: l, q => by
    have ih := pm_lv_mem b ad (i0 + 1) l q
    unfold pm_lv
    constructor
    · intro h
      by_cases hv : v.1 ≤ 2
      · rw [if_pos hv] at h
        rcases List.mem_cons.mp h with h | h
        · exact ⟨0, v, rfl, hv, h⟩
        · obtain ⟨j, w, h1, h2, h3⟩ := ih.mp h
          exact ⟨j + 1, w, h1, h2, by rw [h3]; congr 1; omega⟩
      · rw [if_neg hv] at h
        obtain ⟨j, w, h1, h2, h3⟩ := ih.mp h
        exact ⟨j + 1, w, h1, h2, by rw [h3]; congr 1; omega⟩
    · rintro ⟨j, w, h1, h2, h3⟩
      cases j with
      | zero =>
        have h4 : v = w := Option.some.inj h1
        subst h4
        rw [if_pos h2]
        exact List.mem_cons.mpr (Or.inl h3)
      | succ j =>
        have h5 : q ∈ pm_lv b ad (i0 + 1) l := ih.mpr ⟨j, w, h1, h2, by rw [h3]; congr 1; omega⟩
        by_cases hv : v.1 ≤ 2
        · rw [if_pos hv]; exact List.mem_cons_of_mem _ h5
        · rw [if_neg hv]; exact h5
theorem pm_lv_at {b : Nat} {ad : Nat → Nat} {ls : Array Slot} {nL : Nat} {l : List pm_V} {i : Nat} {v : pm_V} (h : lv_has ls nL (pm_lv b ad 0 l)) (hi : pm_get l i = some v) (hv : v.1 ≤ 2) : ls[i]? = some (.val (pm_val b ad v)) :=
  h.2.2 (i, pm_val b ad v) ((pm_lv_mem b ad 0 l _).mpr ⟨i, v, hi, hv, by rw [Nat.zero_add]⟩)
theorem lv_more {ls : Array Slot} {nL : Nat} {l l' : List (Nat × Value)} (h : lv_has ls nL l) (hl : ∀ q ∈ l', q ∈ l) : lv_has ls nL l' := ⟨h.1, h.2.1, fun q hq => h.2.2 q (hl q hq)⟩
theorem pm_get_lt {α : Type} {l : List α} {i : Nat} {v : α} (h : pm_get l i = some v) : i < l.length := by
  rw [pm_get_eq] at h
  exact (List.getElem?_eq_some_iff.mp h).1
theorem pm_get_set {α : Type} {l : List α} {i j : Nat} {v w : α} (h : pm_get (pm_set l i v) j = some w) : (j = i ∧ w = v) ∨ (j ≠ i ∧ pm_get l j = some w) := by
  rw [pm_get_eq, pm_set_eq] at h
  rw [pm_get_eq]
  by_cases hj : j = i
  · subst hj
    have hlt : j < (l.set j v).length := (List.getElem?_eq_some_iff.mp h).1
    rw [List.length_set] at hlt
    rw [List.getElem?_set_self hlt] at h
    exact Or.inl ⟨rfl, (Option.some.inj h).symm⟩
  · rw [List.getElem?_set_ne (Ne.symm hj)] at h
    exact Or.inr ⟨hj, h⟩
theorem pm_put_inv {ls ls' : List pm_V} {i : Nat} {v : pm_V} (h : pm_put ls i v = some ls') : i < ls.length ∧ pm_lng ls i = false ∧ ls' = pm_set ls i v := by
  unfold pm_put at h
  split at h
  · cases h
  · next w hw =>
    split at h
    · cases h
    · next hl =>
      cases h
      exact ⟨pm_get_lt hw, hl, rfl⟩
theorem pm_lng_f {ls : List pm_V} {i j : Nat} {w : pm_V} (h : pm_lng ls i = false) (hj : pm_get ls j = some w) (hi : j + 1 = i) : w.1 ≠ 1 := by
  subst hi
  intro q
  obtain ⟨t, z⟩ := w
  cases q
  simp [pm_lng, hj] at h
theorem pm_lv_put {b : Nat} {ad : Nat → Nat} {ls : List pm_V} {i : Nat} {v : pm_V} (hl : pm_lng ls i = false) :
    ∀ q ∈ pm_lv b ad 0 (pm_set ls i v), q ∈ (i, pm_val b ad v) :: (pm_lv b ad 0 ls).filter (fun q => !(q.1 == i) && !(q.1 + 1 == i && q.2.category == 2)) := by
  intro q hq
  obtain ⟨j, w, h1, h2, h3⟩ := (pm_lv_mem b ad 0 _ q).mp hq
  rw [Nat.zero_add] at h3
  rcases pm_get_set h1 with ⟨rfl, rfl⟩ | ⟨hj, h4⟩
  · exact List.mem_cons.mpr (Or.inl h3)
  · refine List.mem_cons_of_mem _ (List.mem_filter.mpr ⟨(pm_lv_mem b ad 0 ls q).mpr ⟨j, w, h4, h2, by rw [h3, Nat.zero_add]⟩, ?_⟩)
    subst h3
    simp only [Bool.and_eq_true, Bool.not_eq_true', beq_eq_false_iff_ne, ne_eq, Bool.and_eq_false_iff]
    refine ⟨hj, ?_⟩
    by_cases hi : j + 1 = i
    · exact Or.inr (fun z => pm_lng_f hl h4 hi ((pm_cat2 b ad w).mp z))
    · exact Or.inl hi
theorem pm_lv_put2 {b : Nat} {ad : Nat → Nat} {ls : List pm_V} {i : Nat} {v : pm_V} (hl : pm_lng ls i = false) :
    ∀ q ∈ pm_lv b ad 0 (pm_set (pm_set ls i v) (i + 1) (9, 0)), q ∈ (i, pm_val b ad v) :: (pm_lv b ad 0 ls).filter (fun q => !(q.1 == i) && (!(q.1 == i + 1) && !(q.1 + 1 == i && q.2.category == 2))) := by
  intro q hq
  obtain ⟨j, w, h1, h2, h3⟩ := (pm_lv_mem b ad 0 _ q).mp hq
  rw [Nat.zero_add] at h3
  rcases pm_get_set h1 with ⟨rfl, rfl⟩ | ⟨hj1, h4⟩
  · exact absurd h2 (by decide)
  rcases pm_get_set h4 with ⟨rfl, rfl⟩ | ⟨hj, h4⟩
  · exact List.mem_cons.mpr (Or.inl h3)
  · refine List.mem_cons_of_mem _ (List.mem_filter.mpr ⟨(pm_lv_mem b ad 0 ls q).mpr ⟨j, w, h4, h2, by rw [h3, Nat.zero_add]⟩, ?_⟩)
    subst h3
    simp only [Bool.and_eq_true, Bool.not_eq_true', beq_eq_false_iff_ne, ne_eq, Bool.and_eq_false_iff]
    refine ⟨hj, hj1, ?_⟩
    by_cases hi : j + 1 = i
    · exact Or.inr (fun z => pm_lng_f hl h4 hi ((pm_cat2 b ad w).mp z))
    · exact Or.inl hi
/-! ### entry -/
theorem pm_get_pad : ∀ (n : Nat) (l : List pm_V) (j : Nat) (v : pm_V), pm_get (pm_pad n l) j = some v → v.1 ≤ 2 → pm_get l j = some v
  | 0, l, j, v, h, _ => by cases h
  | n + 1, [], 0, v, h, hv => by cases h; exact absurd hv (by decide)
  | n + 1, [], j + 1, v, h, hv => by
    have := pm_get_pad n [] j v h hv
    cases this
  | n + 1, a :: l, 0, v, h, _ => h
  | n + 1, a :: l, j + 1, v, h, hv => pm_get_pad n l j v h hv
theorem pm_spr_ne : ∀ (t : Nat) (z : Int) (l : List pm_V), t ≠ 1 → pm_spr ((t, z) :: l) = (t, z) :: pm_spr l
  | 0, z, l, _ => rfl
  | 1, z, l, h => absurd rfl h
  | t + 2, z, l, _ => rfl
theorem pm_spr_args (b : Nat) (ad : Nat → Nat) : ∀ (l : List pm_V) (i j : Nat) (v : pm_V), pm_get (pm_spr l) j = some v → v.1 ≤ 2 → (i + j, pm_val b ad v) ∈ lv_args i (l.map (pm_val b ad))
  | [], i, j, v, h, _ => by cases j <;> cases h
  | (t, z) :: l, i, j, v, h, hv => by
    by_cases ht : t = 1
    · subst ht
      have hc : (pm_val b ad (1, z)).category = 2 := rfl
      rw [List.map_cons, lv_args, if_pos hc]
      match j, h with
      | 0, h =>
        have h4 : ((1, z) : pm_V) = v := Option.some.inj h
        subst h4
        exact List.mem_cons.mpr (Or.inl rfl)
      | 1, h =>
        have h4 : ((9, 0) : pm_V) = v := Option.some.inj h
        subst h4
        exact absurd hv (by decide)
      | j + 2, h =>
        have := pm_spr_args b ad l (i + 2) j v h hv
        rw [show i + 2 + j = i + (j + 2) by omega] at this
        exact List.mem_cons_of_mem _ this
    · have hc : ¬ (pm_val b ad (t, z)).category = 2 := fun q => ht ((pm_cat2 b ad (t, z)).mp q)
      rw [List.map_cons, lv_args, if_neg hc]
      have hs := pm_spr_ne t z l ht
      rw [hs] at h
      match j, h with
      | 0, h =>
        have h4 : ((t, z) : pm_V) = v := Option.some.inj h
        subst h4
        exact List.mem_cons.mpr (Or.inl rfl)
      | j + 1, h =>
        have := pm_spr_args b ad l (i + 1) j v h hv
        rw [show i + 1 + j = i + (j + 1) by omega] at this
        exact List.mem_cons_of_mem _ this
theorem pm_spr_len (b : Nat) (ad : Nat → Nat) : ∀ l : List pm_V, (lg_sl (l.map (pm_val b ad))).length = (pm_spr l).length
  | [] => rfl
  | (t, z) :: l => by
    have ih := pm_spr_len b ad l
    by_cases ht : t = 1
    · subst ht
      show (([Slot.val (pm_val b ad (1, z)), Slot.second] : List Slot) ++ lg_sl (l.map (pm_val b ad))).length = _
      rw [List.length_append, ih]
      show _ = (pm_spr l).length + 1 + 1
      simp
      omega
    · have hc : ¬ (pm_val b ad (t, z)).category = 2 := fun q => ht ((pm_cat2 b ad (t, z)).mp q)
      have hs := pm_spr_ne t z l ht
      rw [hs]
      have e : lg_sl (((t, z) :: l).map (pm_val b ad)) = [Slot.val (pm_val b ad (t, z))] ++ lg_sl (l.map (pm_val b ad)) := by
        simp [lg_sl, hc]
      rw [e, List.length_append, ih]
      simp
      omega
/-! ### the heap -/
def pm_cell (b : Nat) (ad : Nat → Nat) (ca : Nat → ClassId) (fc : pm_K) (μ : Nat → Nat → Int) (i : Nat) (sh : Nat × Nat × Nat) : va_E := match sh with
  | (0, ci, n) => .inr (ci, (List.range n).map fun k => pm_val b ad (pm_tag (fc ci k), μ i k))
  | (_, 0, n) => .inl (ca 0, n, .inl (fun j => Int32.ofInt (μ i j)))
  | (_, 1, n) => .inl (ca 1, n, .inr (.inl (fun j => Int64.ofInt (μ i j))))
  | (_, 2, n) => .inl (ca 2, n, .inl (fun j => Int32.ofInt (μ i j)))
  | (_, e, n) => .inl (ca e, n, .inr (.inr (.inr (.inr (fun j => pm_rf b ad (μ i j))))))
def pm_wsA (b : Nat) (ad : Nat → Nat) (ca : Nat → ClassId) (fc : pm_K) (μ : Nat → Nat → Int) : Nat → List (Nat × Nat × Nat) → va_W
  | _, [] => []
  | i, sh :: l => (b + i, pm_cell b ad ca fc μ i sh) :: pm_wsA b ad ca fc μ (i + 1) l
def pm_ws (b : Nat) (ad : Nat → Nat) (ca : Nat → ClassId) (fc : pm_K) (σ : pm_S) : va_W := pm_wsA b ad ca fc σ.2 0 σ.1
theorem pm_wsA_get (b : Nat) (ad : Nat → Nat) (ca : Nat → ClassId) (fc : pm_K) (μ : Nat → Nat → Int) : ∀ (i0 : Nat) (l : List (Nat × Nat × Nat)) (k : Nat), (pm_wsA b ad ca fc μ i0 l)[k]? = (pm_get l k).map fun sh => (b + (i0 + k), pm_cell b ad ca fc μ (i0 + k) sh)
  | i0, [], k => by simp [pm_wsA, pm_get]
  | i0, sh :: l, 0 => by simp [pm_wsA, pm_get]
  | i0, sh :: l, k + 1 => by
    rw [pm_wsA, List.getElem?_cons_succ, pm_wsA_get b ad ca fc μ (i0 + 1) l k, pm_get]
    rw [show i0 + 1 + k = i0 + (k + 1) by omega]
theorem pm_ws_get (b : Nat) (ad : Nat → Nat) (ca : Nat → ClassId) (fc : pm_K) (σ : pm_S) (k : Nat) : (pm_ws b ad ca fc σ)[k]? = (pm_get σ.1 k).map fun sh => (b + k, pm_cell b ad ca fc σ.2 k sh) := by
  unfold pm_ws
  rw [pm_wsA_get, Nat.zero_add]
theorem pm_ws_at {b : Nat} {ad : Nat → Nat} {ca : Nat → ClassId} {fc : pm_K} {σ : pm_S} {k : Nat} {sh : Nat × Nat × Nat} (h : pm_get σ.1 k = some sh) : (pm_ws b ad ca fc σ)[k]? = some (b + k, pm_cell b ad ca fc σ.2 k sh) := by
  rw [pm_ws_get, h]; rfl
theorem pm_cell_congr {b : Nat} {ad : Nat → Nat} {ca : Nat → ClassId} {fc : pm_K} {μ μ' : Nat → Nat → Int} {i : Nat} (h : ∀ k, μ i k = μ' i k) (sh : Nat × Nat × Nat) : pm_cell b ad ca fc μ i sh = pm_cell b ad ca fc μ' i sh := by
  have e : μ i = μ' i := funext h
  unfold pm_cell
  rw [e]
theorem pm_ws_set {b : Nat} {ad : Nat → Nat} {ca : Nat → ClassId} {fc : pm_K} {L : List (Nat × Nat × Nat)} {μ μ' : Nat → Nat → Int} {c : Nat} {sh : Nat × Nat × Nat} (hc : pm_get L c = some sh) (h : ∀ i, i ≠ c → ∀ k, μ' i k = μ i k) :
    (pm_ws b ad ca fc (L, μ)).set c (b + c, pm_cell b ad ca fc μ' c sh) = pm_ws b ad ca fc (L, μ') := by
  apply List.ext_getElem?
  intro k
  rw [pm_ws_get]
  by_cases hk : k = c
  · subst hk
    have hlt : k < (pm_ws b ad ca fc (L, μ)).length := (List.getElem?_eq_some_iff.mp (pm_ws_at (σ := (L, μ)) hc)).1
    rw [List.getElem?_set_self hlt, hc]
    rfl
  · rw [List.getElem?_set_ne (Ne.symm hk), pm_ws_get]
    show (pm_get L k).map _ = (pm_get L k).map _
    congr 1
    funext sh'
    rw [pm_cell_congr (μ := μ) (μ' := μ') (fun j => (h k hk j).symm)]
theorem pm_get_app {α : Type} {l l' : List α} {k : Nat} : pm_get (l ++ l') k = if k < l.length then pm_get l k else pm_get l' (k - l.length) := by
  rw [pm_get_eq, pm_get_eq, pm_get_eq]
  by_cases h : k < l.length
  · rw [if_pos h, List.getElem?_append_left h]
  · rw [if_neg h, List.getElem?_append_right (by omega)]
theorem pm_D (b : Nat) (ad : Nat → Nat) (ca : Nat → ClassId) (fc : pm_K) (σ : pm_S) : va_D (fun q => b ≤ q) (pm_ws b ad ca fc σ) := by
  have key : ∀ (k : Nat) (q : Nat × va_E), (pm_ws b ad ca fc σ)[k]? = some q → q.1 = b + k := by
    intro k q hq
    rw [pm_ws_get] at hq
    cases hg : pm_get σ.1 k with
    | none => rw [hg] at hq; cases hq
    | some sh => rw [hg] at hq; cases hq; rfl
  refine ⟨fun i j p q hi hj hpq => ?_, fun k q hk => ?_⟩
  · rw [key i p hi, key j q hj] at hpq
    omega
  · show b ≤ q.1
    rw [key k q hk]
    omega
/-- what lies in a cell is a number of its kind -/
def pm_good (fc : pm_K) (sh : Nat × Nat × Nat) (k : Nat) (v : Int) : Prop := match sh with
  | (0, ci, _) => pm_ok (pm_tag (fc ci k), v) ∧ (fc ci k = 3 → v = 0 ∨ v = 1)
  | (_, 0, _) => pm_ok (0, v)
  | (_, 1, _) => pm_ok (1, v)
  | (_, 2, _) => v = 0 ∨ v = 1
  | _ => True
def pm_mok (fc : pm_K) (σ : pm_S) : Prop := (σ.1.length ≤ 1000 ∧ ∀ i sh, pm_get σ.1 i = some sh → sh.1 ≠ 0 → sh.2.1 ≤ 5 ∧ sh.2.2 < 2147483648) ∧ ∀ i sh, pm_get σ.1 i = some sh → ∀ k, k < sh.2.2 → pm_good fc sh k (σ.2 i k)
def pm_sl1 (sh : Nat × Nat × Nat) : Nat := sh.2.2
def pm_sl (l : List (Nat × Nat × Nat)) : Nat := (l.map pm_sl1).sum
def pm_all (fc : pm_K) (g : pm_F) : Prop := (∀ v ∈ g.2.1, pm_ok v) ∧ (∀ v ∈ g.2.2.1, pm_ok v) ∧ pm_mok fc g.2.2.2


