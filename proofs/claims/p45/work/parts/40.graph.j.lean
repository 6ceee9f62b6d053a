/-! JOINED: 40.graph, 41.spread, 42.spreadb, 43.back, 44.dijk, 45.dijkb, 46.goes, 47.goesb, 50.lay, 51.layb, 52.layc, 53.asks, 54.asksb, 55.asksc, 56.least -/
section
/-! WALKS over steps, in plain numbers: distances, and that they are but one -/
section GR
/-- a walk of n steps, as the places it comes by and the minutes up to each -/
def Wk (E : Nat → Nat → Int → Prop) (n s p : Nat) (w : Int) : Prop := ∃ (f : Nat → Nat) (c : Nat → Int), f 0 = s ∧ c 0 = 0 ∧ f n = p ∧ c n = w ∧ ∀ i, i < n → E (f i) (f (i + 1)) (c (i + 1) - c i)
variable {E : Nat → Nat → Int → Prop} {P s : Nat} {K : Int}
theorem Wk_0 (s : Nat) : Wk E 0 s s 0 := ⟨fun _ => s, fun _ => 0, rfl, rfl, rfl, rfl, fun i hi => absurd hi (by omega)⟩
theorem Wk_snoc {n p q : Nat} {w k : Int} (h : Wk E n s p w) (he : E p q k) : Wk E (n + 1) s q (w + k) := by
  obtain ⟨f, c, h1, h2, h3, h4, h5⟩ := h
  refine ⟨fun i => if i ≤ n then f i else q, fun i => if i ≤ n then c i else w + k, ?_, ?_, ?_, ?_, fun i hi => ?_⟩
  · dsimp only; rw [if_pos (by omega)]; exact h1
  · dsimp only; rw [if_pos (by omega)]; exact h2
  · dsimp only; rw [if_neg (by omega)]
  · dsimp only; rw [if_neg (by omega)]
  · dsimp only
    by_cases hn : i < n
    · rw [if_pos (by omega), if_pos (by omega), if_pos (by omega), if_pos (by omega)]
      exact h5 i hn
    · rw [if_pos (by omega), if_neg (by omega), if_neg (by omega), if_pos (by omega), show i = n by omega, h3, h4, show w + k - w = k by omega]
      exact he
theorem Wk_init {n q : Nat} {w : Int} (h : Wk E (n + 1) s q w) : ∃ p k, Wk E n s p (w - k) ∧ E p q k := by
  obtain ⟨f, c, h1, h2, h3, h4, h5⟩ := h
  refine ⟨f n, c (n + 1) - c n, ⟨f, c, h1, h2, rfl, by omega, fun i hi => h5 i (by omega)⟩, ?_⟩
  have := h5 n (by omega)
  rw [h3] at this
  exact this
theorem pigeon : ∀ (P : Nat) (f : Nat → Nat), (∀ i, i ≤ P → f i < P) → ∃ i j, i < j ∧ j ≤ P ∧ f i = f j
  | 0, f, h => absurd (h 0 (by omega)) (by omega)
  | P + 1, f, h => by
    by_cases hv : ∃ i, i ≤ P ∧ f i = f (P + 1)
    · obtain ⟨i, hi, he⟩ := hv
      exact ⟨i, P + 1, by omega, by omega, he⟩
    · have hn : ∀ i, i ≤ P → f i ≠ f (P + 1) := fun i hi he => hv ⟨i, hi, he⟩
      obtain ⟨i, j, h1, h2, h3⟩ := pigeon P (fun i => if f i = P then f (P + 1) else f i) (fun i hi => by
        have a1 := h i (by omega)
        have a2 := h (P + 1) (by omega)
        have a3 := hn i hi
        by_cases hp : f i = P
        · rw [if_pos hp]; omega
        · rw [if_neg hp]; omega)
      refine ⟨i, j, h1, by omega, ?_⟩
      have a3 := hn i (by omega)
      have a4 := hn j h2
      by_cases hp : f i = P
      · by_cases hq : f j = P
        · rw [hp, hq]
        · rw [if_pos hp, if_neg hq] at h3
          exact absurd h3.symm a4
      · by_cases hq : f j = P
        · rw [if_neg hp, if_pos hq] at h3
          exact absurd h3 a3
        · rw [if_neg hp, if_neg hq] at h3
          exact h3
/-- steps between places below P, of 0 to K minutes -/
abbrev Okg (E : Nat → Nat → Int → Prop) (P : Nat) (K : Int) : Prop := ∀ a b k, E a b k → a < P ∧ b < P ∧ 0 ≤ k ∧ k ≤ K
theorem Wk_in (hE : Okg E P K) (hs : s < P) {n p : Nat} {w : Int} (h : Wk E n s p w) : p < P := by
  cases n with
  | zero =>
    obtain ⟨f, c, h1, h2, h3, h4, h5⟩ := h
    omega
  | succ n =>
    obtain ⟨q, k, -, he⟩ := Wk_init h
    exact (hE _ _ _ he).2.1
theorem Wk_cost (hE : Okg E P K) : ∀ {n p : Nat} {w : Int}, Wk E n s p w → 0 ≤ w ∧ w ≤ K * n
  | 0, p, w, h => by
    obtain ⟨f, c, h1, h2, h3, h4, h5⟩ := h
    omega
  | n + 1, p, w, h => by
    obtain ⟨q, k, h1, he⟩ := Wk_init h
    have h2 := Wk_cost hE h1
    have h3 := (hE _ _ _ he).2.2
    have h4 : K * ((n + 1 : Nat) : Int) = K * n + K := by
      rw [show ((n + 1 : Nat) : Int) = (n : Int) + 1 by omega, Int.mul_add, Int.mul_one]
    rw [h4]
    omega
/-- a walk can be cut to fewer steps than there are places -/
theorem Wk_cut (hE : Okg E P K) (hs : s < P) : ∀ (N n p : Nat) (w : Int), n ≤ N → Wk E n s p w → ∃ n' w', n' < P ∧ w' ≤ w ∧ Wk E n' s p w'
  | N, n, p, w, hN, h => by
    by_cases hn : n < P
    · exact ⟨n, w, hn, by omega, h⟩
    · obtain ⟨f, c, h1, h2, h3, h4, h5⟩ := h
      have hf : ∀ i, i ≤ n → f i < P := fun i hi => by
        by_cases h0 : i = n
        · rw [h0]
          exact Wk_in hE hs ⟨f, c, h1, h2, rfl, rfl, h5⟩
        · exact (hE _ _ _ (h5 i (by omega))).1
      obtain ⟨i, j, hij, hj, he⟩ := pigeon P f (fun i hi => hf i (by omega))
      have hc : c i ≤ c j := by
        have mono : ∀ t, i + t ≤ n → c i ≤ c (i + t) := fun t => by
          induction t with
          | zero => intro _; exact Int.le_refl _
          | succ t ih =>
            intro ht
            have a := ih (by omega)
            have b := (hE _ _ _ (h5 (i + t) (by omega))).2.2.1
            rw [show i + (t + 1) = i + t + 1 by omega]
            omega
        have := mono (j - i) (by omega)
        rw [show i + (j - i) = j by omega] at this
        exact this
      cases N with
      | zero => omega
      | succ N =>
        have hw : Wk E (n - (j - i)) s p (w - (c j - c i)) := by
          refine ⟨fun k => if k ≤ i then f k else f (k + (j - i)), fun k => if k ≤ i then c k else c (k + (j - i)) - (c j - c i), ?_, ?_, ?_, ?_, fun k hk => ?_⟩
          · dsimp only; rw [if_pos (by omega)]; exact h1
          · dsimp only; rw [if_pos (by omega)]; exact h2
          · dsimp only
            by_cases hk : n - (j - i) ≤ i
            · rw [if_pos hk, show n - (j - i) = i by omega, he, show j = n by omega]; exact h3
            · rw [if_neg hk, show n - (j - i) + (j - i) = n by omega]; exact h3
          · dsimp only
            by_cases hk : n - (j - i) ≤ i
            · rw [if_pos hk, show n - (j - i) = i by omega, show j = n by omega, h4]; omega
            · rw [if_neg hk, show n - (j - i) + (j - i) = n by omega, h4]
          · dsimp only
            by_cases hk1 : k + 1 ≤ i
            · rw [if_pos (by omega), if_pos hk1, if_pos hk1, if_pos (by omega)]
              exact h5 k (by omega)
            · by_cases hk2 : k ≤ i
              · have hki : k = i := by omega
                subst hki
                rw [if_pos (by omega), if_neg (by omega), if_neg (by omega), if_pos (by omega), he, show k + 1 + (j - k) = j + 1 by omega]
                have := h5 j (by omega)
                rw [show c (j + 1) - (c j - c k) - c k = c (j + 1) - c j by omega]
                exact this
              · rw [if_neg (by omega), if_neg (by omega), if_neg (by omega), if_neg (by omega), show k + 1 + (j - i) = k + (j - i) + 1 by omega]
                have := h5 (k + (j - i)) (by omega)
                rw [show c (k + (j - i) + 1) - (c j - c i) - (c (k + (j - i)) - (c j - c i)) = c (k + (j - i) + 1) - c (k + (j - i)) by omega]
                exact this
        obtain ⟨n', w', g1, g2, g3⟩ := Wk_cut hE hs N (n - (j - i)) p _ (by omega) hw
        exact ⟨n', w', g1, by omega, g3⟩
/-- m tells the minutes from s; INF where there is no walk -/
def IsD (E : Nat → Nat → Int → Prop) (P s : Nat) (I : Int) (m : Nat → Int) : Prop := m s = 0 ∧ (∀ a b k, E a b k → m a < I → m b ≤ m a + k) ∧ (∀ p, p < P → m p < I → ∃ n, Wk E n s p (m p)) ∧ ∀ p, p < P → m p ≤ I
theorem IsD_le (hE : Okg E P K) (hs : s < P) {I : Int} {m : Nat → Int} (h : IsD E P s I m) : ∀ {n p : Nat} {w : Int}, Wk E n s p w → m p ≤ w
  | 0, p, w, hw => by
    obtain ⟨f, c, h1, h2, h3, h4, h5⟩ := hw
    rw [← h3, h1, h.1]
    omega
  | n + 1, p, w, hw => by
    obtain ⟨q, k, h1, he⟩ := Wk_init hw
    have h2 := IsD_le hE hs h h1
    have h3 := hE _ _ _ he
    by_cases hq : m q < I
    · have := h.2.1 _ _ _ he hq
      omega
    · have a := h.2.2.2 p h3.2.1
      omega
theorem IsD_fin (hE : Okg E P K) (hs : s < P) {I : Int} {m : Nat → Int} (h : IsD E P s I m) (hK : 0 ≤ K) {n p : Nat} {w : Int} (hw : Wk E n s p w) : m p ≤ K * ((P - 1 : Nat) : Int) := by
  obtain ⟨n', w', g1, g2, g3⟩ := Wk_cut hE hs n n p w (by omega) hw
  have a := IsD_le hE hs h g3
  have b := (Wk_cost hE g3).2
  have c : K * (n' : Int) ≤ K * ((P - 1 : Nat) : Int) := Int.mul_le_mul_of_nonneg_left (by omega) hK
  omega
end GR
end
section
/-! WAYS: spreading finds the minutes from a place to each -/
section SP
variable {L : Nat} {xs : Nat → Int} {d : Nat} {v : Nat → Nat → Int}
/-- the steps laid: so many, between places that are there, of 1 to 99 minutes -/
def WOK (v : Nat → Nat → Int) (S P : Nat) : Prop := v 29 8 = (S : Int) ∧ S ≤ 172 ∧ v 29 9 = (P : Int) ∧ P ≤ 60 ∧ ∀ i, i < S → (0 ≤ v 30 i ∧ v 30 i < (P : Int)) ∧ (0 ≤ v 31 i ∧ v 31 i < (P : Int)) ∧ 1 ≤ v 32 i ∧ v 32 i ≤ 99
/-- the steps that count without a crossing -/
def EC (v : Nat → Nat → Int) (S : Nat) (x : Int) (a b : Nat) (k : Int) : Prop := ∃ i, i < S ∧ v 30 i = (a : Int) ∧ v 31 i = (b : Int) ∧ v 32 i = k ∧ (x = -1 ∨ v 33 i ≠ x)
theorem EC_ok {S P : Nat} {x : Int} (h : WOK v S P) : Okg (EC v S x) P 99 := fun a b k he => by
  obtain ⟨i, hi, h1, h2, h3, -⟩ := he
  obtain ⟨g1, g2, g3, g4⟩ := h.2.2.2.2 i hi
  omega
theorem c_isThere {S P : Nat} (h : WOK v S P) (a : Int) : qE L xs (d + 1) nX10_isThere [(2, 29), (0, a)] (qS v) = some (some (0, zb (0 ≤ a ∧ a < (P : Int))), qS v) := by
  have h9 := h.2.2.1
  simp (disch := omega) only [e_X10_isThere, b_X10_isThere_0, b_X10_isThere_4, b_X10_isThere_12, b_X10_isThere_16, b_X10_isThere_17, h9, qB_some, psh_some, psh_none, and_true, true_and, and_false, false_and, and_self, or_true, true_or, or_false, false_or, not_true_eq_false, not_false_eq_true, ↓reduceIte, Int.reduceEq, Int.reduceLT, Int.reduceLE, Int.reduceToNat, Nat.reduceEqDiff, Nat.reduceAdd]
  by_cases h1 : a < 0
  · rw [if_pos h1, zb_f (by omega)]
  · by_cases h2 : a < (P : Int)
    · rw [if_neg h1, if_pos h2, zb_t (by omega)]
    · rw [if_neg h1, if_neg h2, zb_f (by omega)]
/-- the minutes so far: 0 at the start, a walk's where below NONE -/
def Jn (E : Nat → Nat → Int → Prop) (P s : Nat) (m : Nat → Int) : Prop := m s = 0 ∧ (∀ p, p < P → 0 ≤ m p ∧ m p ≤ 9999) ∧ ∀ p, p < P → m p < 9999 → ∃ n, Wk E n s p (m p)
/-- within a sweep, from m0, after i steps -/
def Sw (v : Nat → Nat → Int) (S P s : Nat) (x : Int) (m0 m : Nat → Int) (near : Int) (i : Nat) : Prop := Jn (EC v S x) P s m ∧ (∀ p, m p ≤ m0 p) ∧ (∀ t, t < i → (x = -1 ∨ v 33 t ≠ x) → m (v 31 t).toNat ≤ m0 (v 30 t).toNat + v 32 t) ∧ (near = 0 ∨ near = 1) ∧ (near = 0 → m = m0)
theorem sw_step {S P s : Nat} {x : Int} {m0 m : Nat → Int} {near : Int} {i : Nat} (h : WOK v S P) (hs : s < P) (hi : i < S) (hw : Sw v S P s x m0 m near i) (hx : x = -1 ∨ v 33 i ≠ x) (hl : m (v 30 i).toNat + v 32 i < m (v 31 i).toNat) : Sw v S P s x m0 (fun p => if p = (v 31 i).toNat then m (v 30 i).toNat + v 32 i else m p) 1 (i + 1) := by
  obtain ⟨⟨j1, j2, j3⟩, w2, w3, w4, w5⟩ := hw
  obtain ⟨g1, g2, g3, g4⟩ := h.2.2.2.2 i hi
  have k1 := j2 (v 30 i).toNat (by omega)
  have k2 := j2 (v 31 i).toNat (by omega)
  have k3 : (v 31 i).toNat ≠ s := fun q => by rw [q, j1] at hl; omega
  refine ⟨⟨?_, fun p hp => ?_, fun p hp hm => ?_⟩, fun p => ?_, fun t ht htx => ?_, Or.inr rfl, fun q => absurd q (by decide)⟩
  · dsimp only
    rw [if_neg (fun q => k3 q.symm)]
    exact j1
  · dsimp only
    have := j2 p hp
    split
    · omega
    · omega
  · dsimp only at hm ⊢
    by_cases hq : p = (v 31 i).toNat
    · rw [if_pos hq]
      obtain ⟨n, hn⟩ := j3 (v 30 i).toNat (by omega) (by omega)
      refine ⟨n + 1, ?_⟩
      rw [hq]
      exact Wk_snoc hn ⟨i, hi, by omega, by omega, rfl, hx⟩
    · rw [if_neg hq] at hm ⊢
      exact j3 p hp hm
  · dsimp only
    have := w2 p
    have h2 := w2 (v 31 i).toNat
    by_cases hq : p = (v 31 i).toNat
    · rw [if_pos hq, hq]; omega
    · rw [if_neg hq]; exact this
  · dsimp only
    have h2 := w2 (v 30 i).toNat
    by_cases ht2 : t = i
    · subst ht2
      rw [if_pos rfl]
      omega
    · have h3 := w3 t (by omega) htx
      by_cases hq : (v 31 t).toNat = (v 31 i).toNat
      · rw [if_pos hq]
        rw [hq] at h3
        omega
      · rw [if_neg hq]
        exact h3
theorem sw_skip {S P s : Nat} {x : Int} {m0 m : Nat → Int} {near : Int} {i : Nat} (hw : Sw v S P s x m0 m near i) (hx : ¬ (x = -1 ∨ v 33 i ≠ x) ∨ ¬ m (v 30 i).toNat + v 32 i < m (v 31 i).toNat) : Sw v S P s x m0 m near (i + 1) := by
  obtain ⟨j, w2, w3, w4, w5⟩ := hw
  refine ⟨j, w2, fun t ht htx => ?_, w4, w5⟩
  by_cases ht2 : t = i
  · subst ht2
    rcases hx with hx | hx
    · exact absurd htx hx
    · have h2 := w2 (v 30 t).toNat
      omega
  · exact w3 t (by omega) htx
theorem up_fn (c k : Nat) (z : Int) : pm_up v c k z c = fun p => if p = k then z else v c p := by
  funext p
  unfold pm_up
  by_cases h : p = k
  · rw [if_pos ⟨rfl, h⟩, if_pos h]
  · rw [if_neg (fun q => h q.2), if_neg h]
theorem up_cell {c k a : Nat} {z : Int} (h : a ≠ c) : pm_up v c k z a = v a := by
  funext p
  exact if_neg (fun q => h q.1)
theorem WOK_cg {v w : Nat → Nat → Int} {S P : Nat} (hc : ∀ c, c ≠ 34 → w c = v c) (h : WOK v S P) : WOK w S P := by
  unfold WOK
  rw [hc 29 (by decide), hc 30 (by decide), hc 31 (by decide), hc 32 (by decide)]
  exact h
theorem EC_cg {v w : Nat → Nat → Int} {S : Nat} {x : Int} (hc : ∀ c, c ≠ 34 → w c = v c) : EC w S x = EC v S x := by
  unfold EC
  rw [hc 30 (by decide), hc 31 (by decide), hc 32 (by decide), hc 33 (by decide)]
theorem Sw_cg {v w : Nat → Nat → Int} {S P s : Nat} {x : Int} {m0 m : Nat → Int} {near : Int} {i : Nat} (hc : ∀ c, c ≠ 34 → w c = v c) (h : Sw v S P s x m0 m near i) : Sw w S P s x m0 m near i := by
  unfold Sw
  rw [EC_cg hc, hc 30 (by decide), hc 31 (by decide), hc 32 (by decide), hc 33 (by decide)]
  exact h
theorem lp_sweep {S P s : Nat} {x : Int} {m0 : Nat → Int} (hs : s < P) (k : Int) : ∀ (n i : Nat) (v : Nat → Nat → Int) (near : Int) (u6 u7 : pm_V), i + n = S → WOK v S P → Sw v S P s x m0 (v 34) near i → ∃ v' near' w6 w7, qG L xs d CX10_spread 26 [(2, 29), (0, (s : Int)), (0, x), (0, near), (0, k), (0, (i : Int)), u6, u7] [] (qS v) = qG L xs d CX10_spread 124 [(2, 29), (0, (s : Int)), (0, x), (0, near'), (0, k), (0, (S : Int)), w6, w7] [] (qS v') ∧ (∀ c, c ≠ 34 → v' c = v c) ∧ Sw v' S P s x m0 (v' 34) near' S
  | 0, i, v, near, u6, u7, hi, h, hw => by
    have hS : i = S := by omega
    subst hS
    refine ⟨v, near, u6, u7, ?_, fun _ _ => rfl, hw⟩
    rw [b_X10_spread_26, h.1, if_neg (by omega)]
  | n + 1, i, v, near, u6, u7, hi, h, hw => by
    obtain ⟨g1, g2, g3, g4⟩ := h.2.2.2.2 i (by omega)
    have hS := h.1
    have hS2 := h.2.1
    have hP := h.2.2.2.1
    have k1 := hw.1.2.1 (v 30 i).toNat (by omega)
    have k2 := hw.1.2.1 (v 31 i).toNat (by omega)
    have a1 : qG L xs d CX10_spread 26 [(2, 29), (0, (s : Int)), (0, x), (0, near), (0, k), (0, (i : Int)), u6, u7] [] (qS v) = qG L xs d CX10_spread 78 [(2, 29), (0, (s : Int)), (0, x), (0, near), (0, k), (0, (i : Int)), (0, v 34 (v 30 i).toNat + v 32 i), u7] [(0, zb (x = -1 ∨ v 33 i ≠ x))] (qS v) := by
      by_cases hx : x = -1
      · rw [zb_t (Or.inl hx)]
        simp (disch := omega) only [b_X10_spread_26, b_X10_spread_35, b_X10_spread_46, b_X10_spread_47, b_X10_spread_54, b_X10_spread_73, if_pos, w32_id, Int.toNat_natCast]
      · by_cases hy : v 33 i = x
        · rw [zb_f (by omega)]
          simp (disch := omega) only [b_X10_spread_26, b_X10_spread_35, b_X10_spread_46, b_X10_spread_47, b_X10_spread_54, b_X10_spread_62, b_X10_spread_69, b_X10_spread_77, if_pos, if_neg, w32_id, Int.toNat_natCast]
        · rw [zb_t (by omega)]
          simp (disch := omega) only [b_X10_spread_26, b_X10_spread_35, b_X10_spread_46, b_X10_spread_47, b_X10_spread_54, b_X10_spread_62, b_X10_spread_69, b_X10_spread_73, if_pos, if_neg, w32_id, Int.toNat_natCast]
    by_cases hx : x = -1 ∨ v 33 i ≠ x
    · rw [zb_t hx] at a1
      have a2 : qG L xs d CX10_spread 26 [(2, 29), (0, (s : Int)), (0, x), (0, near), (0, k), (0, (i : Int)), u6, u7] [] (qS v) = qG L xs d CX10_spread 99 [(2, 29), (0, (s : Int)), (0, x), (0, near), (0, k), (0, (i : Int)), (0, v 34 (v 30 i).toNat + v 32 i), (0, 1)] [(0, v 34 (v 31 i).toNat), (0, v 34 (v 30 i).toNat + v 32 i)] (qS v) := by
        rw [a1]
        simp (disch := omega) only [b_X10_spread_78, b_X10_spread_85, b_X10_spread_98, if_pos, if_neg, Int.toNat_natCast]
      by_cases hl : v 34 (v 30 i).toNat + v 32 i < v 34 (v 31 i).toNat
      · have hu : ∀ c, c ≠ 34 → pm_up v 34 (v 31 i).toNat (v 34 (v 30 i).toNat + v 32 i) c = v c := fun c hc => up_cell hc
        have hw2 := sw_step h hs (by omega) hw hx hl
        rw [← up_fn 34 (v 31 i).toNat (v 34 (v 30 i).toNat + v 32 i)] at hw2
        obtain ⟨v', near', w6, w7, e1, e2, e3⟩ := lp_sweep hs k n (i + 1) (pm_up v 34 (v 31 i).toNat (v 34 (v 30 i).toNat + v 32 i)) 1 (0, v 34 (v 30 i).toNat + v 32 i) (0, 1) (by omega) (WOK_cg hu h) (Sw_cg hu hw2)
        refine ⟨v', near', w6, w7, ?_, fun c hc => (e2 c hc).trans (hu c hc), e3⟩
        rw [show ((i + 1 : Nat) : Int) = (i : Int) + 1 by omega] at e1
        refine Eq.trans ?_ e1
        rw [a2]
        conv => lhs; simp (disch := omega) only [b_X10_spread_99, b_X10_spread_102, b_X10_spread_113, b_X10_spread_116, if_pos, Int.toNat_natCast]
        rw [b_X10_spread_118, w32_id (by omega) (by omega)]
      · obtain ⟨v', near', w6, w7, e1, e2, e3⟩ := lp_sweep hs k n (i + 1) v near (0, v 34 (v 30 i).toNat + v 32 i) (0, 1) (by omega) h (sw_skip hw (Or.inr hl))
        refine ⟨v', near', w6, w7, ?_, e2, e3⟩
        rw [show ((i + 1 : Nat) : Int) = (i : Int) + 1 by omega] at e1
        refine Eq.trans ?_ e1
        rw [a2, b_X10_spread_99, if_neg hl, b_X10_spread_118, w32_id (by omega) (by omega)]
    · rw [zb_f hx] at a1
      obtain ⟨v', near', w6, w7, e1, e2, e3⟩ := lp_sweep hs k n (i + 1) v near (0, v 34 (v 30 i).toNat + v 32 i) (0, 0) (by omega) h (sw_skip hw (Or.inl hx))
      refine ⟨v', near', w6, w7, ?_, e2, e3⟩
      rw [show ((i + 1 : Nat) : Int) = (i : Int) + 1 by omega] at e1
      refine Eq.trans ?_ e1
      rw [a1, b_X10_spread_78, if_pos rfl, b_X10_spread_118, w32_id (by omega) (by omega)]
end SP
end
section
/-! WAYS: all sweeps; spread() tells the minutes -/
section SQ
variable {L : Nat} {xs : Nat → Int} {d : Nat} {v : Nat → Nat → Int}
theorem Jn_IsD {E : Nat → Nat → Int → Prop} {P s : Nat} {m : Nat → Int} (h : Jn E P s m) (hf : ∀ a b k, E a b k → m a < 9999 → m b ≤ m a + k) : IsD E P s 9999 m := ⟨h.1, hf, h.2.2, fun p hp => (h.2.1 p hp).2⟩
theorem lp_sweeps {S P s : Nat} {x : Int} (hs : s < P) : ∀ (n k : Nat) (v : Nat → Nat → Int) (near : Int) (u5 u6 u7 : pm_V), k + n = 60 → WOK v S P → Jn (EC v S x) P s (v 34) → (∀ t p w, t ≤ k → Wk (EC v S x) t s p w → v 34 p ≤ w) → (near = 0 → ∀ t, t < S → (x = -1 ∨ v 33 t ≠ x) → v 34 (v 31 t).toNat ≤ v 34 (v 30 t).toNat + v 32 t) → ∃ v', qG L xs d CX10_spread 10 [(2, 29), (0, (s : Int)), (0, x), (0, near), (0, (k : Int)), u5, u6, u7] [] (qS v) = some (none, qS v') ∧ (∀ c, c ≠ 34 → v' c = v c) ∧ IsD (EC v S x) P s 9999 (v' 34)
  | 0, k, v, near, u5, u6, u7, hk, h, hj, hd, hn => by
    refine ⟨v, ?_, fun _ _ => rfl, Jn_IsD hj (fun a b c he ha => ?_)⟩
    · rw [b_X10_spread_10, if_neg (by omega), b_X10_spread_130]
    · have hE := EC_ok (x := x) h
      have hP := h.2.2.2.1
      obtain ⟨t, ht⟩ := hj.2.2 a (hE _ _ _ he).1 ha
      obtain ⟨t', w', g1, g2, g3⟩ := Wk_cut hE hs _ _ _ _ (Nat.le_refl _) (Wk_snoc ht he)
      have := hd t' b w' (by omega) g3
      omega
  | n + 1, k, v, near, u5, u6, u7, hk, h, hj, hd, hn => by
    by_cases h0 : near = 0
    · refine ⟨v, ?_, fun _ _ => rfl, Jn_IsD hj (fun a b c he ha => ?_)⟩
      · rw [b_X10_spread_10, if_pos (by omega), b_X10_spread_17, if_pos h0, b_X10_spread_130]
      · obtain ⟨t, ht, h1, h2, h3, h4⟩ := he
        have := hn h0 t ht h4
        rw [h1, h2, h3, Int.toNat_natCast, Int.toNat_natCast] at this
        exact this
    · obtain ⟨v1, near1, w6, w7, e1, e2, e3⟩ := lp_sweep (L := L) (xs := xs) (d := d) (m0 := v 34) (x := x) hs (k : Int) S 0 v 0 u6 u7 (by omega) h ⟨hj, fun p => Int.le_refl _, fun t ht => absurd ht (by omega), Or.inl rfl, fun _ => rfl⟩
      obtain ⟨k1, k2, k3, k4, k5⟩ := e3
      have hc := EC_cg (S := S) (x := x) e2
      obtain ⟨v', e4, e5, e6⟩ := lp_sweeps hs n (k + 1) v1 near1 (0, (S : Int)) w6 w7 (by omega) (WOK_cg e2 h) k1 (fun t p w ht hw => by
        rw [hc] at hw
        cases t with
        | zero =>
          obtain ⟨f, c, a1, a2, a3, a4, a5⟩ := hw
          rw [← a3, a1, k1.1]
          omega
        | succ t =>
          obtain ⟨q, c, a1, a2⟩ := Wk_init hw
          have b1 := hd t q (w - c) (by omega) a1
          obtain ⟨i, hi, c1, c2, c3, c4⟩ := a2
          have b2 := k3 i hi (by rw [e2 33 (by decide)]; exact c4)
          rw [e2 30 (by decide), e2 31 (by decide), e2 32 (by decide), c1, c2, c3, Int.toNat_natCast, Int.toNat_natCast] at b2
          omega) (fun hz t ht htx => by
        have b2 := k3 t ht htx
        have b3 := k5 hz
        rw [← b3] at b2
        exact b2)
      rw [hc] at e6
      refine ⟨v', ?_, fun c hc2 => (e5 c hc2).trans (e2 c hc2), e6⟩
      rw [b_X10_spread_10, if_pos (by omega), b_X10_spread_17, if_neg h0, b_X10_spread_21]
      refine Eq.trans e1 ?_
      rw [b_X10_spread_124, w32_id (by omega) (by omega), show (k : Int) + 1 = ((k + 1 : Nat) : Int) by omega]
      exact e4
theorem c_startAt {S P s : Nat} (h : WOK v S P) (hs : s < P) : ∃ v', qE L xs (d + 2) nX10_startAt [(2, 29), (0, (s : Int))] (qS v) = some (none, qS v') ∧ (∀ c, c ≠ 34 → v' c = v c) ∧ v' 34 s = 0 ∧ ∀ p, p < 60 → p ≠ s → v' 34 p = 9999 := by
  have hP := h.2.2.2.1
  have hu : ∀ c, c ≠ 34 → pm_fl v 34 0 60 9999 c = v c := fun c hc => by
    funext i
    exact if_neg (fun q => hc q.1)
  have r1 : qE L xs (d + 1) nJ7_fill_53178 [(2, 34), (0, 9999)] (qS v) = some (none, qS (pm_fl v 34 0 60 9999)) := q_fill (c := 34) (by decide) rfl (by decide) (nr_of rfl)
  refine ⟨pm_up (pm_fl v 34 0 60 9999) 34 s 0, ?_, fun c hc => (up_cell hc).trans (hu c hc), up_eq _ _ _ _, fun p hp hps => ?_⟩
  · rw [e_X10_startAt, b_X10_startAt_0, r1, qB_some, psh_none, b_X10_startAt_10, c_isThere (WOK_cg hu h), qB_some, psh_some, b_X10_startAt_15, zb_0, if_pos (by omega), b_X10_startAt_18, if_pos (by omega), Int.toNat_natCast, b_X10_startAt_25]
  · rw [up_ne (Or.inr hps)]
    exact if_pos (by omega)
/-- from a place to each, without a crossing (or -1) -/
theorem c_spread {S P s : Nat} {x : Int} (h : WOK v S P) (hs : s < P) : ∃ v', qE L xs (d + 3) nX10_spread [(2, 29), (0, (s : Int)), (0, x)] (qS v) = some (none, qS v') ∧ (∀ c, c ≠ 34 → v' c = v c) ∧ IsD (EC v S x) P s 9999 (v' 34) := by
  have hP := h.2.2.2.1
  obtain ⟨v1, e1, e2, e3, e4⟩ := c_startAt (L := L) (xs := xs) (d := d) h hs
  have hc := EC_cg (S := S) (x := x) e2
  obtain ⟨v', e5, e6, e7⟩ := lp_sweeps (L := L) (xs := xs) (d := d + 2) (x := x) hs 60 0 v1 1 (9, 0) (9, 0) (9, 0) (by omega) (WOK_cg e2 h) ⟨e3, fun p hp => by
    by_cases hps : p = s
    · rw [hps, e3]; omega
    · rw [e4 p (by omega) hps]; omega, fun p hp hm => by
    by_cases hps : p = s
    · rw [hps, e3]; exact ⟨0, Wk_0 s⟩
    · rw [e4 p (by omega) hps] at hm; omega⟩ (fun t p w ht hw => by
    have ht0 : t = 0 := by omega
    subst ht0
    obtain ⟨f, c, a1, a2, a3, a4, a5⟩ := hw
    rw [← a3, a1, e3]
    omega) (fun q => absurd q (by decide))
  rw [hc] at e7
  refine ⟨v', ?_, fun c hc2 => (e6 c hc2).trans (e2 c hc2), e7⟩
  rw [e_X10_spread, b_X10_spread_0, e1, qB_some, psh_none, b_X10_spread_5]
  exact e5
end SQ
end
section
/-! WAYS: spreading back tells the minutes from each to a place -/
section SB
variable {L : Nat} {xs : Nat → Int} {d : Nat} {v : Nat → Nat → Int}
/-- the steps, the other way round -/
def EB (v : Nat → Nat → Int) (S : Nat) (a b : Nat) (k : Int) : Prop := EC v S (-1) b a k
theorem EB_ok {S P : Nat} (h : WOK v S P) : Okg (EB v S) P 99 := fun a b k he => by
  have := EC_ok h b a k he
  omega
theorem EB_cg {v w : Nat → Nat → Int} {S : Nat} (hc : ∀ c, c ≠ 34 → w c = v c) : EB w S = EB v S := by
  unfold EB
  rw [EC_cg hc]
def SwB (v : Nat → Nat → Int) (S P s : Nat) (m0 m : Nat → Int) (near : Int) (i : Nat) : Prop := Jn (EB v S) P s m ∧ (∀ p, m p ≤ m0 p) ∧ (∀ t, i ≤ t → t < S → m (v 30 t).toNat ≤ m0 (v 31 t).toNat + v 32 t) ∧ (near = 0 ∨ near = 1) ∧ (near = 0 → m = m0)
theorem swb_step {S P s : Nat} {m0 m : Nat → Int} {near : Int} {i : Nat} (h : WOK v S P) (hi : i < S) (hw : SwB v S P s m0 m near (i + 1)) (hl : m (v 31 i).toNat + v 32 i < m (v 30 i).toNat) : SwB v S P s m0 (fun p => if p = (v 30 i).toNat then m (v 31 i).toNat + v 32 i else m p) 1 i := by
  obtain ⟨⟨j1, j2, j3⟩, w2, w3, w4, w5⟩ := hw
  obtain ⟨g1, g2, g3, g4⟩ := h.2.2.2.2 i hi
  have k1 := j2 (v 31 i).toNat (by omega)
  have k2 := j2 (v 30 i).toNat (by omega)
  have k3 : (v 30 i).toNat ≠ s := fun q => by rw [q, j1] at hl; omega
  refine ⟨⟨?_, fun p hp => ?_, fun p hp hm => ?_⟩, fun p => ?_, fun t ht ht2 => ?_, Or.inr rfl, fun q => absurd q (by decide)⟩
  · dsimp only
    rw [if_neg (fun q => k3 q.symm)]
    exact j1
  · dsimp only
    have := j2 p hp
    split
    · omega
    · omega
  · dsimp only at hm ⊢
    by_cases hq : p = (v 30 i).toNat
    · rw [if_pos hq]
      obtain ⟨n, hn⟩ := j3 (v 31 i).toNat (by omega) (by omega)
      refine ⟨n + 1, ?_⟩
      rw [hq]
      exact Wk_snoc hn ⟨i, hi, by omega, by omega, rfl, Or.inl rfl⟩
    · rw [if_neg hq] at hm ⊢
      exact j3 p hp hm
  · dsimp only
    have := w2 p
    have h2 := w2 (v 30 i).toNat
    by_cases hq : p = (v 30 i).toNat
    · rw [if_pos hq, hq]; omega
    · rw [if_neg hq]; exact this
  · dsimp only
    have h2 := w2 (v 31 i).toNat
    by_cases ht3 : t = i
    · subst ht3
      rw [if_pos rfl]
      omega
    · have h3 := w3 t (by omega) ht2
      by_cases hq : (v 30 t).toNat = (v 30 i).toNat
      · rw [if_pos hq]
        rw [hq] at h3
        omega
      · rw [if_neg hq]
        exact h3
theorem swb_skip {S P s : Nat} {m0 m : Nat → Int} {near : Int} {i : Nat} (hw : SwB v S P s m0 m near (i + 1)) (hx : ¬ m (v 31 i).toNat + v 32 i < m (v 30 i).toNat) : SwB v S P s m0 m near i := by
  obtain ⟨j, w2, w3, w4, w5⟩ := hw
  refine ⟨j, w2, fun t ht ht2 => ?_, w4, w5⟩
  by_cases ht3 : t = i
  · subst ht3
    have h2 := w2 (v 31 t).toNat
    omega
  · exact w3 t (by omega) ht2
theorem SwB_cg {v w : Nat → Nat → Int} {S P s : Nat} {m0 m : Nat → Int} {near : Int} {i : Nat} (hc : ∀ c, c ≠ 34 → w c = v c) (h : SwB v S P s m0 m near i) : SwB w S P s m0 m near i := by
  unfold SwB
  rw [EB_cg hc, hc 30 (by decide), hc 31 (by decide), hc 32 (by decide)]
  exact h
theorem lp_sweepB {S P s : Nat} {m0 : Nat → Int} (k : Int) : ∀ (i : Nat) (v : Nat → Nat → Int) (near : Int) (u5 : pm_V), i ≤ S → WOK v S P → SwB v S P s m0 (v 34) near i → ∃ v' near' w5, qG L xs d CX10_spreadBack 29 [(2, 29), (0, (s : Int)), (0, near), (0, k), (0, (i : Int) - 1), u5] [] (qS v) = qG L xs d CX10_spreadBack 95 [(2, 29), (0, (s : Int)), (0, near'), (0, k), (0, -1), w5] [] (qS v') ∧ (∀ c, c ≠ 34 → v' c = v c) ∧ SwB v' S P s m0 (v' 34) near' 0
  | 0, v, near, u5, hi, h, hw => by
    refine ⟨v, near, u5, ?_, fun _ _ => rfl, hw⟩
    rw [b_X10_spreadBack_29, if_pos (by omega), show ((0 : Nat) : Int) - 1 = -1 by omega]
  | i + 1, v, near, u5, hi, h, hw => by
    obtain ⟨g1, g2, g3, g4⟩ := h.2.2.2.2 i (by omega)
    have hS2 := h.2.1
    have hP := h.2.2.2.1
    have k1 := hw.1.2.1 (v 30 i).toNat (by omega)
    have k2 := hw.1.2.1 (v 31 i).toNat (by omega)
    rw [show ((i + 1 : Nat) : Int) - 1 = (i : Int) by omega]
    have a2 : qG L xs d CX10_spreadBack 29 [(2, 29), (0, (s : Int)), (0, near), (0, k), (0, (i : Int)), u5] [] (qS v) = qG L xs d CX10_spreadBack 70 [(2, 29), (0, (s : Int)), (0, near), (0, k), (0, (i : Int)), (0, v 34 (v 31 i).toNat + v 32 i)] [(0, v 34 (v 30 i).toNat), (0, v 34 (v 31 i).toNat + v 32 i)] (qS v) := by
      simp (disch := omega) only [b_X10_spreadBack_29, b_X10_spreadBack_34, b_X10_spreadBack_45, b_X10_spreadBack_46, b_X10_spreadBack_53, b_X10_spreadBack_69, if_pos, if_neg, w32_id, Int.toNat_natCast]
    by_cases hl : v 34 (v 31 i).toNat + v 32 i < v 34 (v 30 i).toNat
    · have hu : ∀ c, c ≠ 34 → pm_up v 34 (v 30 i).toNat (v 34 (v 31 i).toNat + v 32 i) c = v c := fun c hc => up_cell hc
      have hw2 := swb_step h (by omega) hw hl
      rw [← up_fn 34 (v 30 i).toNat (v 34 (v 31 i).toNat + v 32 i)] at hw2
      obtain ⟨v', near', w5, e1, e2, e3⟩ := lp_sweepB k i (pm_up v 34 (v 30 i).toNat (v 34 (v 31 i).toNat + v 32 i)) 1 (0, v 34 (v 31 i).toNat + v 32 i) (by omega) (WOK_cg hu h) (SwB_cg hu hw2)
      refine ⟨v', near', w5, ?_, fun c hc => (e2 c hc).trans (hu c hc), e3⟩
      refine Eq.trans ?_ e1
      rw [a2]
      conv => lhs; simp (disch := omega) only [b_X10_spreadBack_70, b_X10_spreadBack_73, b_X10_spreadBack_84, b_X10_spreadBack_87, if_pos, Int.toNat_natCast]
      rw [b_X10_spreadBack_89, w32_id (by omega) (by omega)]
      rfl
    · obtain ⟨v', near', w5, e1, e2, e3⟩ := lp_sweepB k i v near (0, v 34 (v 31 i).toNat + v 32 i) (by omega) h (swb_skip hw hl)
      refine ⟨v', near', w5, ?_, e2, e3⟩
      refine Eq.trans ?_ e1
      rw [a2, b_X10_spreadBack_70, if_neg hl, b_X10_spreadBack_89, w32_id (by omega) (by omega)]
      rfl
theorem lp_sweepsB {S P s : Nat} (hs : s < P) : ∀ (n k : Nat) (v : Nat → Nat → Int) (near : Int) (u4 u5 : pm_V), k + n = 60 → WOK v S P → Jn (EB v S) P s (v 34) → (∀ t p w, t ≤ k → Wk (EB v S) t s p w → v 34 p ≤ w) → (near = 0 → ∀ t, t < S → v 34 (v 30 t).toNat ≤ v 34 (v 31 t).toNat + v 32 t) → ∃ v', qG L xs d CX10_spreadBack 9 [(2, 29), (0, (s : Int)), (0, near), (0, (k : Int)), u4, u5] [] (qS v) = some (none, qS v') ∧ (∀ c, c ≠ 34 → v' c = v c) ∧ IsD (EB v S) P s 9999 (v' 34)
  | 0, k, v, near, u4, u5, hk, h, hj, hd, hn => by
    refine ⟨v, ?_, fun _ _ => rfl, Jn_IsD hj (fun a b c he ha => ?_)⟩
    · rw [b_X10_spreadBack_9, if_neg (by omega), b_X10_spreadBack_101]
    · have hE := EB_ok h
      have hP := h.2.2.2.1
      obtain ⟨t, ht⟩ := hj.2.2 a (hE _ _ _ he).1 ha
      obtain ⟨t', w', g1, g2, g3⟩ := Wk_cut hE hs _ _ _ _ (Nat.le_refl _) (Wk_snoc ht he)
      have := hd t' b w' (by omega) g3
      omega
  | n + 1, k, v, near, u4, u5, hk, h, hj, hd, hn => by
    by_cases h0 : near = 0
    · refine ⟨v, ?_, fun _ _ => rfl, Jn_IsD hj (fun a b c he ha => ?_)⟩
      · rw [b_X10_spreadBack_9, if_pos (by omega), b_X10_spreadBack_15, if_pos h0, b_X10_spreadBack_101]
      · obtain ⟨t, ht, h1, h2, h3, h4⟩ := he
        have := hn h0 t ht
        rw [h1, h2, h3, Int.toNat_natCast, Int.toNat_natCast] at this
        exact this
    · have hS1 := h.1
      have hS2 := h.2.1
      obtain ⟨v1, near1, w5, e1, e2, e3⟩ := lp_sweepB (L := L) (xs := xs) (d := d) (m0 := v 34) (s := s) (P := P) (S := S) (k : Int) S v 0 u5 (by omega) h ⟨hj, fun p => Int.le_refl _, fun t ht ht2 => absurd ht (by omega), Or.inl rfl, fun _ => rfl⟩
      obtain ⟨k1, k2, k3, k4, k5⟩ := e3
      have hc := EB_cg (S := S) e2
      obtain ⟨v', e4, e5, e6⟩ := lp_sweepsB hs n (k + 1) v1 near1 (0, -1) w5 (by omega) (WOK_cg e2 h) k1 (fun t p w ht hw => by
        rw [hc] at hw
        cases t with
        | zero =>
          obtain ⟨f, c, a1, a2, a3, a4, a5⟩ := hw
          rw [← a3, a1, k1.1]
          omega
        | succ t =>
          obtain ⟨q, c, a1, a2⟩ := Wk_init hw
          have b1 := hd t q (w - c) (by omega) a1
          obtain ⟨i, hi, c1, c2, c3, c4⟩ := a2
          have b2 := k3 i (by omega) hi
          rw [e2 30 (by decide), e2 31 (by decide), e2 32 (by decide), c1, c2, c3, Int.toNat_natCast, Int.toNat_natCast] at b2
          omega) (fun hz t ht => by
        have b2 := k3 t (by omega) ht
        have b3 := k5 hz
        rw [← b3] at b2
        exact b2)
      rw [hc] at e6
      refine ⟨v', ?_, fun c hc2 => (e5 c hc2).trans (e2 c hc2), e6⟩
      rw [b_X10_spreadBack_9, if_pos (by omega), b_X10_spreadBack_15, if_neg h0, b_X10_spreadBack_19, hS1, w32_id (by omega) (by omega)]
      refine Eq.trans e1 ?_
      rw [b_X10_spreadBack_95, w32_id (by omega) (by omega), show (k : Int) + 1 = ((k + 1 : Nat) : Int) by omega]
      exact e4
theorem c_spreadBack {S P s : Nat} (h : WOK v S P) (hs : s < P) : ∃ v', qE L xs (d + 3) nX10_spreadBack [(2, 29), (0, (s : Int))] (qS v) = some (none, qS v') ∧ (∀ c, c ≠ 34 → v' c = v c) ∧ IsD (EB v S) P s 9999 (v' 34) := by
  have hP := h.2.2.2.1
  obtain ⟨v1, e1, e2, e3, e4⟩ := c_startAt (L := L) (xs := xs) (d := d) h hs
  have hc := EB_cg (S := S) e2
  obtain ⟨v', e5, e6, e7⟩ := lp_sweepsB (L := L) (xs := xs) (d := d + 2) (S := S) hs 60 0 v1 1 (9, 0) (9, 0) (by omega) (WOK_cg e2 h) ⟨e3, fun p hp => by
    by_cases hps : p = s
    · rw [hps, e3]; omega
    · rw [e4 p (by omega) hps]; omega, fun p hp hm => by
    by_cases hps : p = s
    · rw [hps, e3]; exact ⟨0, Wk_0 s⟩
    · rw [e4 p (by omega) hps] at hm; omega⟩ (fun t p w ht hw => by
    have ht0 : t = 0 := by omega
    subst ht0
    obtain ⟨f, c, a1, a2, a3, a4, a5⟩ := hw
    rw [← a3, a1, e3]
    omega) (fun q => absurd q (by decide))
  rw [hc] at e7
  refine ⟨v', ?_, fun c hc2 => (e6 c hc2).trans (e2 c hc2), e7⟩
  rw [e_X10_spreadBack, b_X10_spreadBack_0, e1, qB_some, psh_none, b_X10_spreadBack_5]
  exact e5
end SB
end
section
/-! THE REFERENCE's spreading: the nearest place first -/
section DJ
variable {L : Nat} {xs : Nat → Int} {d : Nat} {v : Nat → Nat → Int}
/-- the matrix of steps: 1 to 99 minutes, or none -/
def MOK (v : Nat → Nat → Int) (N : Nat) : Prop := N ≤ 60 ∧ ∀ a b, a < N → b < N → (1 ≤ v 74 (60 * a + b) ∧ v 74 (60 * a + b) ≤ 99) ∨ v 74 (60 * a + b) = 1000000
def EM (v : Nat → Nat → Int) (N : Nat) (a b : Nat) (k : Int) : Prop := a < N ∧ b < N ∧ v 74 (60 * a + b) = k ∧ k < 1000000
/-- how many are not sure yet -/
def cnt (f : Nat → Int) : Nat → Nat
  | 0 => 0
  | n + 1 => cnt f n + (if f n = 0 then 1 else 0)
theorem cnt_pos {f : Nat → Int} : ∀ {n : Nat}, 0 < cnt f n → ∃ p, p < n ∧ f p = 0
  | 0, h => absurd h (by unfold cnt; omega)
  | n + 1, h => by
    by_cases hf : f n = 0
    · exact ⟨n, by omega, hf⟩
    · unfold cnt at h
      rw [if_neg hf] at h
      obtain ⟨p, h1, h2⟩ := cnt_pos (n := n) (by omega)
      exact ⟨p, by omega, h2⟩
theorem cnt_zero {f : Nat → Int} : ∀ {n : Nat}, cnt f n = 0 → ∀ p, p < n → f p ≠ 0
  | 0, _, p, hp => absurd hp (by omega)
  | n + 1, h, p, hp => by
    unfold cnt at h
    by_cases hf : f n = 0
    · rw [if_pos hf] at h; omega
    · rw [if_neg hf] at h
      by_cases hpn : p = n
      · rw [hpn]; exact hf
      · exact cnt_zero (n := n) (by omega) p (by omega)
theorem cnt_set {f : Nat → Int} {q : Nat} {z : Int} (hz : z ≠ 0) (hq : f q = 0) : ∀ {n : Nat}, cnt (fun p => if p = q then z else f p) n + (if q < n then 1 else 0) = cnt f n
  | 0 => rfl
  | n + 1 => by
    have ih := cnt_set hz hq (n := n)
    show cnt (fun p => if p = q then z else f p) n + (if (if n = q then z else f n) = 0 then 1 else 0) + (if q < n + 1 then 1 else 0) = cnt f n + (if f n = 0 then 1 else 0)
    by_cases hn : n = q
    · rw [if_pos hn, if_neg hz, if_pos (show q < n + 1 by omega), hn, if_pos hq]
      rw [if_neg (show ¬ q < n by omega), hn] at ih
      omega
    · rw [if_neg hn]
      by_cases hlt : q < n
      · rw [if_pos hlt] at ih
        rw [if_pos (show q < n + 1 by omega)]
        omega
      · rw [if_neg hlt] at ih
        rw [if_neg (show ¬ q < n + 1 by omega)]
        omega
theorem cnt_all {f : Nat → Int} : ∀ {n : Nat}, (∀ p, p < n → f p = 0) → cnt f n = n
  | 0, _ => rfl
  | n + 1, h => by
    unfold cnt
    rw [cnt_all (n := n) (fun p hp => h p (by omega)), if_pos (h n (by omega))]
/-- the minutes so far, and who is sure -/
def Dj (E : Nat → Nat → Int → Prop) (g : Nat → Nat → Int) (N s : Nat) (m f : Nat → Int) (t : Nat) : Prop := (m s = 0 ∧ (∀ p, p < N → 0 ≤ m p ∧ m p ≤ 1000000) ∧ ∀ p, p < N → m p < 1000000 → ∃ n, Wk E n s p (m p)) ∧ (∀ p, p < N → f p = 0 ∨ f p = 1) ∧ cnt f N + t = N ∧ (∀ a b, a < N → b < N → f a = 1 → m a < 1000000 → m b ≤ m a + g a b) ∧ ∀ a b, a < N → b < N → f a = 1 → f b = 0 → m a ≤ m b
/-- the nearest of the first i that aren't sure, or -1 -/
def nr (m f : Nat → Int) : Nat → Int
  | 0 => -1
  | i + 1 => if f i = 0 ∧ (nr m f i < 0 ∨ m i < m (nr m f i).toNat) then (i : Int) else nr m f i
theorem nr_in {m f : Nat → Int} : ∀ i, -1 ≤ nr m f i ∧ nr m f i < (i : Int)
  | 0 => ⟨by show (-1 : Int) ≤ -1; omega, by show (-1 : Int) < ((0 : Nat) : Int); omega⟩
  | i + 1 => by
    have h := nr_in (m := m) (f := f) i
    unfold nr
    split
    · omega
    · omega
theorem nr_is {m f : Nat → Int} : ∀ i, (0 ≤ nr m f i → f (nr m f i).toNat = 0) ∧ ∀ p, p < i → f p = 0 → 0 ≤ nr m f i ∧ m (nr m f i).toNat ≤ m p
  | 0 => ⟨fun h => absurd h (by show ¬ (0 : Int) ≤ -1; omega), fun p hp => absurd hp (by omega)⟩
  | i + 1 => by
    have h := nr_is (m := m) (f := f) i
    unfold nr
    by_cases hc : f i = 0 ∧ (nr m f i < 0 ∨ m i < m (nr m f i).toNat)
    · rw [if_pos hc, Int.toNat_natCast]
      refine ⟨fun _ => hc.1, fun p hp hf => ⟨by omega, ?_⟩⟩
      by_cases hpi : p = i
      · rw [hpi]; exact Int.le_refl _
      · have h2 := h.2 p (by omega) hf
        rcases hc.2 with hl | hl
        · omega
        · omega
    · rw [if_neg hc]
      refine ⟨h.1, fun p hp hf => ?_⟩
      by_cases hpi : p = i
      · subst hpi
        by_cases hn : nr m f p < 0
        · exact absurd ⟨hf, Or.inl hn⟩ hc
        · refine ⟨by omega, ?_⟩
          by_cases hl : m p < m (nr m f p).toNat
          · exact absurd ⟨hf, Or.inr hl⟩ hc
          · omega
      · exact h.2 p (by omega) hf
/-- the steps from q taken, to the first i -/
def rlx (m g : Nat → Int) (q i : Nat) : Nat → Int := fun p => if p < i ∧ m q + g p < m p then m q + g p else m p
theorem lp_near (a t : Int) {N : Nat} (hN : N ≤ 60) : ∀ (n i : Nat) (u6 : pm_V), i + n = N → qG L xs d CX12_goesFrom 55 [(2, 63), (0, a), (0, (N : Int)), (0, t), (0, nr (v 75) (v 76) i), (0, (i : Int)), u6] [] (qS v) = qG L xs d CX12_goesFrom 108 [(2, 63), (0, a), (0, (N : Int)), (0, t), (0, nr (v 75) (v 76) N), (0, (N : Int)), u6] [] (qS v)
  | 0, i, u6, hi => by
    rw [b_X12_goesFrom_55, if_neg (by omega), show i = N by omega]
  | n + 1, i, u6, hi => by
    have h3 := lp_near a t hN n (i + 1) u6 (by omega)
    have hr := nr_in (m := v 75) (f := v 76) i
    rw [show ((i + 1 : Nat) : Int) = (i : Int) + 1 by omega] at h3
    refine Eq.trans ?_ h3
    have e : nr (v 75) (v 76) (i + 1) = if v 76 i = 0 ∧ (nr (v 75) (v 76) i < 0 ∨ v 75 i < v 75 (nr (v 75) (v 76) i).toNat) then (i : Int) else nr (v 75) (v 76) i := rfl
    rw [e]
    by_cases h0 : v 76 i = 0
    · by_cases h1 : nr (v 75) (v 76) i < 0
      · rw [if_pos ⟨h0, Or.inl h1⟩]
        conv => lhs; simp (disch := omega) only [b_X12_goesFrom_55, b_X12_goesFrom_61, b_X12_goesFrom_68, b_X12_goesFrom_71, b_X12_goesFrom_93, if_pos, Int.toNat_natCast, h0, ↓reduceIte]
        rw [b_X12_goesFrom_100, w32_id (by omega) (by omega)]
      · by_cases h2 : v 75 i < v 75 (nr (v 75) (v 76) i).toNat
        · rw [if_pos ⟨h0, Or.inr h2⟩]
          conv => lhs; simp (disch := omega) only [b_X12_goesFrom_55, b_X12_goesFrom_61, b_X12_goesFrom_68, b_X12_goesFrom_71, b_X12_goesFrom_76, b_X12_goesFrom_83, b_X12_goesFrom_90, b_X12_goesFrom_93, if_pos, if_neg, Int.toNat_natCast, h0, ↓reduceIte]
          rw [b_X12_goesFrom_100, w32_id (by omega) (by omega)]
        · rw [if_neg (by omega)]
          conv => lhs; simp (disch := omega) only [b_X12_goesFrom_55, b_X12_goesFrom_61, b_X12_goesFrom_68, b_X12_goesFrom_71, b_X12_goesFrom_76, b_X12_goesFrom_83, b_X12_goesFrom_90, b_X12_goesFrom_98, if_pos, if_neg, Int.toNat_natCast, h0, ↓reduceIte]
          rw [b_X12_goesFrom_100, w32_id (by omega) (by omega)]
    · rw [if_neg (fun q => h0 q.1)]
      conv => lhs; simp (disch := omega) only [b_X12_goesFrom_55, b_X12_goesFrom_61, b_X12_goesFrom_68, b_X12_goesFrom_98, if_pos, if_neg, Int.toNat_natCast]
      rw [b_X12_goesFrom_100, w32_id (by omega) (by omega)]
theorem lp_relax (a t : Int) {N q : Nat} {m0 g : Nat → Int} (hN : N ≤ 60) (hq : q < N) (hm : ∀ p, p < N → 0 ≤ m0 p ∧ m0 p ≤ 1000000) (hg : ∀ p, p < N → 1 ≤ g p ∧ g p ≤ 1000000) (hl : m0 q < 1000000) : ∀ (n i : Nat) (v : Nat → Nat → Int) (u6 : pm_V), i + n = N → (∀ p, p < N → v 74 (60 * q + p) = g p) → v 75 = rlx m0 g q i → ∃ v' w6, qG L xs d CX12_goesFrom 119 [(2, 63), (0, a), (0, (N : Int)), (0, t), (0, (q : Int)), (0, (i : Int)), u6] [] (qS v) = qG L xs d CX12_goesFrom 197 [(2, 63), (0, a), (0, (N : Int)), (0, t), (0, (q : Int)), (0, (N : Int)), w6] [] (qS v') ∧ (∀ c, c ≠ 75 → v' c = v c) ∧ v' 75 = rlx m0 g q N
  | 0, i, v, u6, hi, h74, h75 => by
    have hiN : i = N := by omega
    subst hiN
    refine ⟨v, u6, ?_, fun _ _ => rfl, h75⟩
    rw [b_X12_goesFrom_119, if_neg (by omega)]
  | n + 1, i, v, u6, hi, h74, h75 => by
    have q1 := hm q hq
    have q2 := hg q hq
    have i1 := hm i (by omega)
    have i2 := hg i (by omega)
    have eq : v 75 q = m0 q := by
      rw [h75]
      exact if_neg (by omega)
    have ei : v 75 i = m0 i := by
      rw [h75]
      exact if_neg (by omega)
    have e4 : v 74 (60 * (q : Int) + (i : Int)).toNat = g i := by
      rw [show (60 * (q : Int) + (i : Int)).toNat = 60 * q + i by omega]
      exact h74 i (by omega)
    have a1 : qG L xs d CX12_goesFrom 119 [(2, 63), (0, a), (0, (N : Int)), (0, t), (0, (q : Int)), (0, (i : Int)), u6] [] (qS v) = qG L xs d CX12_goesFrom 190 [(2, 63), (0, a), (0, (N : Int)), (0, t), (0, (q : Int)), (0, (i : Int)), (0, m0 q + g i)] [(0, if m0 q + g i < m0 i then m0 q + g i else m0 i), (0, (i : Int)), (2, 75)] (qS v) := by
      by_cases hc : m0 q + g i < m0 i
      · rw [if_pos hc]
        simp (disch := omega) only [b_X12_goesFrom_119, b_X12_goesFrom_125, b_X12_goesFrom_132, b_X12_goesFrom_137, b_X12_goesFrom_144, b_X12_goesFrom_157, b_X12_goesFrom_175, b_X12_goesFrom_178, if_pos, w32_id, Int.toNat_natCast, eq, ei, e4]
      · rw [if_neg hc]
        simp (disch := omega) only [b_X12_goesFrom_119, b_X12_goesFrom_125, b_X12_goesFrom_132, b_X12_goesFrom_137, b_X12_goesFrom_144, b_X12_goesFrom_157, b_X12_goesFrom_175, b_X12_goesFrom_183, if_pos, if_neg, w32_id, Int.toNat_natCast, eq, ei, e4]
    have hu : ∀ c, c ≠ 75 → pm_up v 75 i (if m0 q + g i < m0 i then m0 q + g i else m0 i) c = v c := fun c hc => up_cell hc
    obtain ⟨v', w6, e1, e2, e3⟩ := lp_relax a t hN hq hm hg hl n (i + 1) (pm_up v 75 i (if m0 q + g i < m0 i then m0 q + g i else m0 i)) (0, m0 q + g i) (by omega) (fun p hp => by rw [hu 74 (by decide)]; exact h74 p hp) (by
      rw [up_fn, h75]
      funext p
      unfold rlx
      by_cases hp : p = i
      · subst hp
        rw [if_pos rfl]
        by_cases hc : m0 q + g p < m0 p
        · rw [if_pos hc, if_pos ⟨by omega, hc⟩]
        · rw [if_neg hc, if_neg (fun w => hc w.2)]
      · rw [if_neg hp]
        by_cases hc : p < i ∧ m0 q + g p < m0 p
        · rw [if_pos hc, if_pos ⟨by omega, hc.2⟩]
        · rw [if_neg hc, if_neg (fun w => hc ⟨by omega, w.2⟩)])
    refine ⟨v', w6, ?_, fun c hc => (e2 c hc).trans (hu c hc), e3⟩
    rw [show ((i + 1 : Nat) : Int) = (i : Int) + 1 by omega] at e1
    refine Eq.trans ?_ e1
    rw [a1, b_X12_goesFrom_190, if_pos (by omega), b_X12_goesFrom_191, w32_id (by omega) (by omega), Int.toNat_natCast]
end DJ
end
section
/-! THE REFERENCE's spreading: a turn keeps what is known; goesFrom() tells the minutes -/
section DK
variable {L : Nat} {xs : Nat → Int} {d : Nat} {v : Nat → Nat → Int}
theorem dj_turn {E : Nat → Nat → Int → Prop} {g : Nat → Nat → Int} {N s t q : Nat} {m f : Nat → Int} (hE : ∀ a b, a < N → b < N → g a b < 1000000 → E a b (g a b)) (hg : ∀ a b, a < N → b < N → 1 ≤ g a b ∧ g a b ≤ 1000000) (hs : s < N) (h : Dj E g N s m f t) (hq : q < N) (hf : f q = 0) (hm : ∀ p, p < N → f p = 0 → m q ≤ m p) : Dj E g N s (if m q < 1000000 then rlx m (g q) q N else m) (fun p => if p = q then 1 else f p) (t + 1) := by
  obtain ⟨⟨j1, j2, j3⟩, f1, f2, r1, r2⟩ := h
  have qb := j2 q hq
  have fc := cnt_set (f := f) (q := q) (z := 1) (by decide) hf (n := N)
  rw [if_pos hq] at fc
  have f1' : ∀ p, p < N → (if p = q then (1 : Int) else f p) = 0 ∨ (if p = q then (1 : Int) else f p) = 1 := fun p hp => by
    by_cases hpq : p = q
    · rw [if_pos hpq]; exact Or.inr rfl
    · rw [if_neg hpq]; exact f1 p hp
  by_cases hl : m q < 1000000
  · rw [if_pos hl]
    have le : ∀ p, rlx m (g q) q N p ≤ m p := fun p => by
      unfold rlx
      by_cases hc : p < N ∧ m q + g q p < m p
      · rw [if_pos hc]; omega
      · rw [if_neg hc]; omega
    have rl : ∀ p, p < N → rlx m (g q) q N p ≤ m q + g q p := fun p hp => by
      unfold rlx
      by_cases hc : p < N ∧ m q + g q p < m p
      · rw [if_pos hc]; omega
      · rw [if_neg hc]; omega
    have ge : ∀ p, p < N → m q ≤ m p → m q ≤ rlx m (g q) q N p := fun p hp hle => by
      have := hg q p hq hp
      unfold rlx
      by_cases hc : p < N ∧ m q + g q p < m p
      · rw [if_pos hc]; omega
      · rw [if_neg hc]; omega
    have sm : ∀ p, p < N → m p ≤ m q → rlx m (g q) q N p = m p := fun p hp hle => by
      have := hg q p hq hp
      exact if_neg (by omega)
    have su : ∀ p, p < N → f p = 1 → m p ≤ m q := fun p hp hp1 => r2 p q hp hq hp1 hf
    refine ⟨⟨?_, fun p hp => ?_, fun p hp hmp => ?_⟩, f1', by omega, fun a b ha hb hfa hma => ?_, fun a b ha hb hfa hfb => ?_⟩
    · rw [sm s hs (by omega)]; exact j1
    · have a1 := j2 p hp
      have a2 := le p
      by_cases hle : m q ≤ m p
      · have := ge p hp hle; omega
      · rw [sm p hp (by omega)]; exact a1
    · by_cases hc : p < N ∧ m q + g q p < m p
      · have e : rlx m (g q) q N p = m q + g q p := if_pos hc
        have a1 := j2 p hp
        obtain ⟨n, hn⟩ := j3 q hq hl
        rw [e]
        exact ⟨n + 1, Wk_snoc hn (hE q p hq hp (by omega))⟩
      · have e : rlx m (g q) q N p = m p := if_neg hc
        rw [e] at hmp ⊢
        exact j3 p hp hmp
    · dsimp only at hfa
      by_cases haq : a = q
      · rw [haq, sm q hq (Int.le_refl _)]
        exact rl b hb
      · rw [if_neg haq] at hfa
        have a1 := su a ha hfa
        rw [sm a ha a1] at hma ⊢
        have a2 := r1 a b ha hb hfa hma
        have a3 := le b
        omega
    · dsimp only at hfa hfb
      have hbq : b ≠ q := fun w => by rw [if_pos w] at hfb; exact absurd hfb (by decide)
      rw [if_neg hbq] at hfb
      have b1 := ge b hb (hm b hb hfb)
      by_cases haq : a = q
      · rw [haq, sm q hq (Int.le_refl _)]; exact b1
      · rw [if_neg haq] at hfa
        have a1 := su a ha hfa
        rw [sm a ha a1]
        omega
  · rw [if_neg hl]
    refine ⟨⟨j1, j2, j3⟩, f1', by omega, fun a b ha hb hfa hma => ?_, fun a b ha hb hfa hfb => ?_⟩
    · dsimp only at hfa
      by_cases haq : a = q
      · rw [haq] at hma; exact absurd hma hl
      · rw [if_neg haq] at hfa; exact r1 a b ha hb hfa hma
    · dsimp only at hfa hfb
      have hbq : b ≠ q := fun w => by rw [if_pos w] at hfb; exact absurd hfb (by decide)
      rw [if_neg hbq] at hfb
      by_cases haq : a = q
      · rw [haq]; exact hm b hb hfb
      · rw [if_neg haq] at hfa; exact r2 a b ha hb hfa hfb
end DK
end
section
/-! THE REFERENCE's spreading: goesFrom() tells the minutes -/
section DG
variable {L : Nat} {xs : Nat → Int} {d : Nat} {v : Nat → Nat → Int}
abbrev gM (v : Nat → Nat → Int) (a b : Nat) : Int := v 74 (60 * a + b)
theorem lp_turns {N s : Nat} (hs : s < N) : ∀ (n t : Nat) (v : Nat → Nat → Int) (u4 u5 u6 : pm_V), t + n = N → MOK v N → Dj (EM v N) (gM v) N s (v 75) (v 76) t → ∃ v', qG L xs d CX12_goesFrom 44 [(2, 63), (0, (s : Int)), (0, (N : Int)), (0, (t : Int)), u4, u5, u6] [] (qS v) = some (none, qS v') ∧ (∀ c, c ≠ 75 → c ≠ 76 → v' c = v c) ∧ IsD (EM v N) N s 1000000 (v' 75)
  | 0, t, v, u4, u5, u6, ht, hM, hD => by
    refine ⟨v, ?_, fun _ _ _ => rfl, hD.1.1, fun a b k he ha => ?_, hD.1.2.2, fun p hp => (hD.1.2.1 p hp).2⟩
    · rw [b_X12_goesFrom_44, if_neg (by omega), b_X12_goesFrom_203]
    · obtain ⟨h1, h2, h3, h4⟩ := he
      have hz := cnt_zero (f := v 76) (n := N) (by have := hD.2.2.1; omega) a h1
      have h5 : v 76 a = 1 := by
        rcases hD.2.1 a h1 with h | h
        · exact absurd h hz
        · exact h
      have h6 := hD.2.2.2.1 a b h1 h2 h5 ha
      rw [show gM v a b = k from h3] at h6
      exact h6
  | n + 1, t, v, u4, u5, u6, ht, hM, hD => by
    have hN := hM.1
    have hc : 0 < cnt (v 76) N := by have := hD.2.2.1; omega
    obtain ⟨p0, hp0, hf0⟩ := cnt_pos hc
    have hr := nr_in (m := v 75) (f := v 76) N
    have hi := nr_is (m := v 75) (f := v 76) N
    have hn0 := (hi.2 p0 hp0 hf0).1
    obtain ⟨q, hq⟩ : ∃ q : Nat, nr (v 75) (v 76) N = (q : Int) := ⟨(nr (v 75) (v 76) N).toNat, by omega⟩
    have hqN : q < N := by omega
    have hfq : v 76 q = 0 := by
      have := hi.1 hn0
      rw [hq, Int.toNat_natCast] at this
      exact this
    have hmq : ∀ p, p < N → v 76 p = 0 → v 75 q ≤ v 75 p := fun p hp hf => by
      have := (hi.2 p hp hf).2
      rw [hq, Int.toNat_natCast] at this
      exact this
    have hg : ∀ a b, a < N → b < N → 1 ≤ gM v a b ∧ gM v a b ≤ 1000000 := fun a b ha hb => by
      have := hM.2 a b ha hb
      show 1 ≤ v 74 (60 * a + b) ∧ v 74 (60 * a + b) ≤ 1000000
      omega
    have T := dj_turn (fun a b ha hb hk => ⟨ha, hb, rfl, hk⟩) hg hs hD hqN hfq hmq
    have l1 := lp_near (L := L) (xs := xs) (d := d) (v := v) (s : Int) (t : Int) hN N 0 u6 (by omega)
    have hu : ∀ c, c ≠ 76 → pm_up v 76 q 1 c = v c := fun c hc => up_cell hc
    have a1 : qG L xs d CX12_goesFrom 44 [(2, 63), (0, (s : Int)), (0, (N : Int)), (0, (t : Int)), u4, u5, u6] [] (qS v) = qG L xs d CX12_goesFrom 119 [(2, 63), (0, (s : Int)), (0, (N : Int)), (0, (t : Int)), (0, (q : Int)), (0, 0), u6] [] (qS (pm_up v 76 q 1)) := by
      rw [b_X12_goesFrom_44, if_pos (by omega), b_X12_goesFrom_49]
      refine Eq.trans l1 ?_
      rw [hq, b_X12_goesFrom_108, if_pos (by omega), Int.toNat_natCast, b_X12_goesFrom_116]
    have e76 : (fun p => if p = q then (1 : Int) else v 76 p) = pm_up v 76 q 1 76 := (up_fn 76 q 1).symm
    have step : ∃ v1, ∃ z5 : Int, ∃ w6, qG L xs d CX12_goesFrom 119 [(2, 63), (0, (s : Int)), (0, (N : Int)), (0, (t : Int)), (0, (q : Int)), (0, 0), u6] [] (qS (pm_up v 76 q 1)) = qG L xs d CX12_goesFrom 197 [(2, 63), (0, (s : Int)), (0, (N : Int)), (0, (t : Int)), (0, (q : Int)), (0, z5), w6] [] (qS v1) ∧ (∀ c, c ≠ 75 → v1 c = pm_up v 76 q 1 c) ∧ v1 75 = (if v 75 q < 1000000 then rlx (v 75) (gM v q) q N else v 75) := by
      by_cases hl : v 75 q < 1000000
      · obtain ⟨v1, w6, e1, e2, e3⟩ := lp_relax (L := L) (xs := xs) (d := d) (s : Int) (t : Int) (m0 := v 75) (g := gM v q) hN hqN hD.1.2.1 (fun p hp => hg q p hqN hp) hl N 0 (pm_up v 76 q 1) u6 (by omega) (fun p hp => by rw [hu 74 (by decide)]) (by
          rw [hu 75 (by decide)]
          funext p
          exact (if_neg (by omega)).symm)
        rw [if_pos hl]
        exact ⟨v1, _, w6, e1, e2, e3⟩
      · rw [if_neg hl]
        refine ⟨pm_up v 76 q 1, 0, u6, ?_, fun _ _ => rfl, hu 75 (by decide)⟩
        rw [b_X12_goesFrom_119, if_pos (by omega), b_X12_goesFrom_125, if_pos (by omega), Int.toNat_natCast, hu 75 (by decide), b_X12_goesFrom_132, if_neg hl]
    obtain ⟨v1, z5, w6, e1, e2, e3⟩ := step
    have h74 : v1 74 = v 74 := (e2 74 (by decide)).trans (hu 74 (by decide))
    have hE : EM v1 N = EM v N := by unfold EM; rw [h74]
    have hG : gM v1 = gM v := by unfold gM; rw [h74]
    obtain ⟨v', e4, e5, e6⟩ := lp_turns hs n (t + 1) v1 (0, (q : Int)) (0, z5) w6 (by omega) (by unfold MOK; rw [h74]; exact hM) (by
      rw [hE, hG, e3, e2 76 (by decide), ← e76]
      exact T)
    rw [hE] at e6
    refine ⟨v', ?_, fun c h1 h2 => (e5 c h1 h2).trans ((e2 c h1).trans (hu c h2)), e6⟩
    rw [a1, e1, b_X12_goesFrom_197, w32_id (by omega) (by omega), show (t : Int) + 1 = ((t + 1 : Nat) : Int) by omega]
    exact e4
end DG
end
section
/-! THE REFERENCE's spreading: from its beginning -/
section DH
variable {L : Nat} {xs : Nat → Int} {d : Nat} {v : Nat → Nat → Int}
theorem lp_ginit {N s : Nat} (hN : N ≤ 60) : ∀ (n j : Nat) (v : Nat → Nat → Int), j + n = N → (∀ p, p < j → v 75 p = 1000000 ∧ v 76 p = 0) → ∃ v', qG L xs d CX12_goesFrom 9 [(2, 63), (0, (s : Int)), (0, (N : Int)), (0, (j : Int)), (9, 0), (9, 0), (9, 0)] [] (qS v) = qG L xs d CX12_goesFrom 35 [(2, 63), (0, (s : Int)), (0, (N : Int)), (0, (N : Int)), (9, 0), (9, 0), (9, 0)] [] (qS v') ∧ (∀ c, c ≠ 75 → c ≠ 76 → v' c = v c) ∧ ∀ p, p < N → v' 75 p = 1000000 ∧ v' 76 p = 0
  | 0, j, v, hj, h => by
    have hjN : j = N := by omega
    subst hjN
    refine ⟨v, ?_, fun _ _ _ => rfl, h⟩
    rw [b_X12_goesFrom_9, if_neg (by omega)]
  | n + 1, j, v, hj, h => by
    obtain ⟨v', e1, e2, e3⟩ := lp_ginit (s := s) hN n (j + 1) (pm_up (pm_up v 75 j 1000000) 76 j 0) (by omega) (fun p hp => by
      by_cases hpj : p = j
      · rw [hpj, up_ne (by omega), up_eq, up_eq]
        exact ⟨rfl, rfl⟩
      · rw [up_ne (by omega), up_ne (by omega), up_ne (by omega), up_ne (by omega)]
        exact h p (by omega))
    refine ⟨v', ?_, fun c h1 h2 => (e2 c h1 h2).trans ((up_cell h2).trans (up_cell h1)), e3⟩
    rw [show ((j + 1 : Nat) : Int) = (j : Int) + 1 by omega] at e1
    refine Eq.trans ?_ e1
    rw [b_X12_goesFrom_9, if_pos (by omega), b_X12_goesFrom_14, if_pos (by omega), Int.toNat_natCast, b_X12_goesFrom_22, if_pos (by omega), Int.toNat_natCast, b_X12_goesFrom_29, w32_id (by omega) (by omega)]
/-- from a place to each over the matrix of steps -/
theorem m_goesFrom {N s : Nat} (hY : 2 * v 64 140 = (N : Int)) (hM : MOK v N) (hs : s < N) : ∃ v', qE L xs (d + 2) nX12_goesFrom [(2, 63), (0, (s : Int))] (qS v) = some (none, qS v') ∧ (∀ c, c ≠ 75 → c ≠ 76 → v' c = v c) ∧ IsD (EM v N) N s 1000000 (v' 75) := by
  have hN := hM.1
  obtain ⟨v1, e1, e2, e3⟩ := lp_ginit (L := L) (xs := xs) (d := d + 1) (s := s) hN N 0 v (by omega) (fun p hp => absurd hp (by omega))
  have hu : ∀ c, c ≠ 75 → c ≠ 76 → pm_up v1 75 s 0 c = v c := fun c h1 h2 => (up_cell h1).trans (e2 c h1 h2)
  have h74 := hu 74 (by decide) (by decide)
  have hE : EM (pm_up v1 75 s 0) N = EM v N := by unfold EM; rw [h74]
  have h76 : pm_up v1 75 s 0 76 = v1 76 := up_cell (by decide)
  have m75 : ∀ p, p < N → pm_up v1 75 s 0 75 p = if p = s then 0 else 1000000 := fun p hp => by
    rw [up_fn]
    dsimp only
    by_cases hps : p = s
    · rw [if_pos hps, if_pos hps]
    · rw [if_neg hps, if_neg hps, (e3 p hp).1]
  obtain ⟨v', e4, e5, e6⟩ := lp_turns (L := L) (xs := xs) (d := d + 1) hs N 0 (pm_up v1 75 s 0) (9, 0) (9, 0) (9, 0) (by omega) (by unfold MOK; rw [h74]; exact hM) ⟨⟨by rw [m75 s hs, if_pos rfl], fun p hp => by
      rw [m75 p hp]
      split
      · omega
      · omega, fun p hp hm => by
      rw [m75 p hp] at hm ⊢
      by_cases hps : p = s
      · rw [if_pos hps, hps]; exact ⟨0, Wk_0 s⟩
      · rw [if_neg hps] at hm; exact absurd hm (by decide)⟩, fun p hp => by rw [h76]; exact Or.inl (e3 p hp).2, by rw [h76, cnt_all (fun p hp => (e3 p hp).2)]; rfl, fun a b ha hb hf => by rw [h76, (e3 a ha).2] at hf; exact absurd hf (by decide), fun a b ha hb hf => by rw [h76, (e3 a ha).2] at hf; exact absurd hf (by decide)⟩
  rw [hE] at e6
  refine ⟨v', ?_, fun c h1 h2 => (e5 c h1 h2).trans (hu c h1 h2), e6⟩
  rw [e_X12_goesFrom, b_X12_goesFrom_0, c_yardMany, qB_some, psh_some, b_X12_goesFrom_5, w32_id (by omega) (by omega), hY]
  refine Eq.trans e1 ?_
  rw [b_X12_goesFrom_35, if_pos (by omega), Int.toNat_natCast, b_X12_goesFrom_42]
  exact e4
end DH
end
section
/-! WAYS: the steps that are laid -/
section LY
variable {L : Nat} {xs : Nat → Int} {d : Nat} {v : Nat → Nat → Int}
/-- between the two sides of a yard, either way -/
def thr (y a b : Nat) : Prop := (a = 2 * y ∧ b = 2 * y + 1) ∨ (a = 2 * y + 1 ∧ b = 2 * y)
def sUp (Y : Int) (c : Nat → Nat → Nat → Int) (a b : Nat) (k : Int) : Prop := (a : Int) + 2 < 2 * Y ∧ b = a + 2 ∧ k = c (a / 2) (a % 2) 1
def sDn (Y : Int) (c : Nat → Nat → Nat → Int) (a b : Nat) (k : Int) : Prop := (a : Int) < 2 * Y ∧ b + 2 = a ∧ k = c (a / 2) (a % 2) 0
def sHo (v : Nat → Nat → Int) (h : Nat) (a b : Nat) (k : Int) : Prop := (v 6 h = 1 ∧ 0 ≤ v 15 h ∧ v 15 h < v 11 0) ∧ thr (v 15 h).toNat a b ∧ k = v 7 h
def sLa (v : Nat → Nat → Int) (l : Nat) (a b : Nat) (k : Int) : Prop := (v 8 l = 1 ∧ (0 ≤ v 16 l ∧ v 16 l < 2 * v 11 0) ∧ 0 ≤ v 17 l ∧ v 17 l < 2 * v 11 0) ∧ ((a = (v 16 l).toNat ∧ b = (v 17 l).toNat) ∨ (a = (v 17 l).toNat ∧ b = (v 16 l).toNat)) ∧ k = v 9 l
def sRo (v : Nat → Nat → Int) (a b : Nat) (k : Int) : Prop := (0 < v 10 0 ∧ thr 0 a b ∧ k = v 10 0) ∨ (0 < v 10 1 ∧ thr (v 11 0 - 1).toNat a b ∧ k = v 10 1)
/-- the steps as they are laid, each with what it crosses -/
def TT (v : Nat → Nat → Int) (c : Nat → Nat → Nat → Int) (a b : Nat) (k x : Int) : Prop := ((sUp (v 11 0) c a b k ∨ sDn (v 11 0) c a b k) ∧ x = -1) ∨ (∃ h : Nat, (h : Int) < v 1 1 ∧ sHo v h a b k ∧ x = (h : Int)) ∨ (∃ l : Nat, (l : Int) < v 1 2 ∧ sLa v l a b k ∧ x = 12 + (l : Int)) ∨ (sRo v a b k ∧ x = -1)
/-- what holds of the wall -/
def WW (v : Nat → Nat → Int) : Prop := (2 ≤ v 11 0 ∧ v 11 0 ≤ 30) ∧ (0 ≤ v 1 1 ∧ v 1 1 ≤ 12) ∧ (0 ≤ v 1 2 ∧ v 1 2 ≤ 12) ∧ (∀ i, i < 12 → (1 ≤ v 7 i ∧ v 7 i ≤ 9) ∧ 1 ≤ v 9 i ∧ v 9 i ≤ 9) ∧ (0 ≤ v 10 0 ∧ v 10 0 ≤ 99) ∧ 0 ≤ v 10 1 ∧ v 10 1 ≤ 99
/-- the steps of a list -/
def Has (v : Nat → Nat → Int) (S : Nat) (T : Nat → Nat → Int → Int → Prop) : Prop := ∀ (a b : Nat) (k x : Int), (∃ i, i < S ∧ v 30 i = (a : Int) ∧ v 31 i = (b : Int) ∧ v 32 i = k ∧ v 33 i = x) ↔ T a b k x
def LyI (v : Nat → Nat → Int) (S P : Nat) (T : Nat → Nat → Int → Int → Prop) : Prop := WOK v S P ∧ Has v S T
theorem LyI_cg {v w : Nat → Nat → Int} {S P : Nat} {T : Nat → Nat → Int → Int → Prop} (hc : ∀ c, 29 ≤ c → c ≤ 33 → w c = v c) (h : LyI v S P T) : LyI w S P T := by
  unfold LyI WOK Has
  rw [hc 29 (by decide) (by decide), hc 30 (by decide) (by decide), hc 31 (by decide) (by decide), hc 32 (by decide) (by decide), hc 33 (by decide) (by decide)]
  exact h
theorem LyI_if {S P : Nat} {T T' : Nat → Nat → Int → Int → Prop} (hT : ∀ a b k x, T a b k x ↔ T' a b k x) (h : LyI v S P T) : LyI v S P T' := ⟨h.1, fun a b k x => (h.2 a b k x).trans (hT a b k x)⟩
/-- what the law's reckoning may change -/
def fM (v w : Nat → Nat → Int) : Prop := (∀ c, c ≠ 23 → c ≠ 27 → c ≠ 28 → w c = v c) ∧ ∀ k, k ≠ 7 → w 23 k = v 23 k
/-- .. and what the ways may -/
def fW (v w : Nat → Nat → Int) : Prop := (∀ c, c ≠ 23 → c ≠ 27 → c ≠ 28 → c < 29 ∨ 37 < c → w c = v c) ∧ ∀ k, k ≠ 7 → w 23 k = v 23 k
theorem fW_r (v : Nat → Nat → Int) : fW v v := ⟨fun _ _ _ _ _ => rfl, fun _ _ => rfl⟩
theorem fW_t {v w u : Nat → Nat → Int} (h1 : fW v w) (h2 : fW w u) : fW v u := ⟨fun c a b e g => (h2.1 c a b e g).trans (h1.1 c a b e g), fun k hk => (h2.2 k hk).trans (h1.2 k hk)⟩
theorem fM_W {v w : Nat → Nat → Int} (h : fM v w) : fW v w := ⟨fun c a b e _ => h.1 c a b e, h.2⟩
/-- only ways' own cells -/
theorem fW_own {v w : Nat → Nat → Int} (h : ∀ c, c < 29 ∨ 37 < c → w c = v c) : fW v w := ⟨fun c _ _ _ g => h c g, fun k _ => by rw [h 23 (by omega)]⟩
/-- the wall and the law are the same -/
def gW (v w : Nat → Nat → Int) : Prop := (∀ c, c < 23 ∨ (23 < c ∧ c < 27) → w c = v c) ∧ ∀ k, k ≠ 7 → w 23 k = v 23 k
theorem gW_r (v : Nat → Nat → Int) : gW v v := ⟨fun _ _ => rfl, fun _ _ => rfl⟩
theorem gW_t {v w u : Nat → Nat → Int} (h1 : gW v w) (h2 : gW w u) : gW v u := ⟨fun c a => (h2.1 c a).trans (h1.1 c a), fun k hk => (h2.2 k hk).trans (h1.2 k hk)⟩
theorem fW_g {v w : Nat → Nat → Int} (h : fW v w) : gW v w := ⟨fun c _ => h.1 c (by omega) (by omega) (by omega) (by omega), h.2⟩
/-- the law tells c y s u minutes -/
def LM (L : Nat) (xs : Nat → Int) (v : Nat → Nat → Int) (c : Nat → Nat → Nat → Int) : Prop := (∀ y s u, 1 ≤ c y s u ∧ c y s u ≤ 99) ∧ ∀ w, gW v w → ∀ (d y s u : Nat), y < 30 → s < 2 → u < 2 → ∃ w', qE L xs (d + 8) nX5_minutes [(2, 23), (2, 1), (0, (y : Int)), (0, (s : Int)), (0, (u : Int))] (qS w) = some (some (0, c y s u), qS w') ∧ fM w w'
theorem LM_g {v w : Nat → Nat → Int} {c : Nat → Nat → Nat → Int} (h : LM L xs v c) (hw : gW v w) : LM L xs w c := ⟨h.1, fun u hu => h.2 u (gW_t hw hu)⟩
theorem LM_W {v w : Nat → Nat → Int} {c : Nat → Nat → Nat → Int} (h : LM L xs v c) (hw : fW v w) : LM L xs w c := LM_g h (fW_g hw)
theorem WW_W {v w : Nat → Nat → Int} (hw : fW v w) : WW w = WW v := by
  unfold WW
  rw [hw.1 1 (by decide) (by decide) (by decide) (by decide), hw.1 7 (by decide) (by decide) (by decide) (by decide), hw.1 9 (by decide) (by decide) (by decide) (by decide), hw.1 10 (by decide) (by decide) (by decide) (by decide), hw.1 11 (by decide) (by decide) (by decide) (by decide)]
theorem fW_c {v w : Nat → Nat → Int} (hw : fW v w) {c : Nat} (h : c < 23 ∨ 37 < c) : w c = v c := hw.1 c (by omega) (by omega) (by omega) (by omega)
theorem sHo_W {v w : Nat → Nat → Int} (hw : fW v w) : sHo w = sHo v := by
  funext h a b k
  unfold sHo
  rw [fW_c hw (c := 6) (by omega), fW_c hw (c := 15) (by omega), fW_c hw (c := 11) (by omega), fW_c hw (c := 7) (by omega)]
theorem sLa_W {v w : Nat → Nat → Int} (hw : fW v w) : sLa w = sLa v := by
  funext h a b k
  unfold sLa
  rw [fW_c hw (c := 8) (by omega), fW_c hw (c := 16) (by omega), fW_c hw (c := 17) (by omega), fW_c hw (c := 11) (by omega), fW_c hw (c := 9) (by omega)]
theorem half_p (p : Nat) (h : p < 1000) : w32 (Int.tdiv (p : Int) 2) = ((p / 2 : Nat) : Int) := by
  rw [td_pos 2 (by omega), w32_id (by omega) (by omega)]
  omega
theorem odd_p (p : Nat) : Int.tmod (p : Int) 2 = ((p % 2 : Nat) : Int) := by
  rw [tm_pos 2 (by omega)]
  omega
theorem c_add {S P : Nat} {T : Nat → Nat → Int → Int → Prop} (h : LyI v S P T) (hS : S < 172) {a b : Nat} (ha : a < P) (hb : b < P) {k x : Int} (hk : 1 ≤ k ∧ k ≤ 99) : ∃ v', qE L xs (d + 2) nX10_add [(2, 29), (0, (a : Int)), (0, (b : Int)), (0, k), (0, x)] (qS v) = some (none, qS v') ∧ (∀ c, c < 29 ∨ 33 < c → v' c = v c) ∧ LyI v' (S + 1) P (fun a' b' k' x' => T a' b' k' x' ∨ (a' = a ∧ b' = b ∧ k' = k ∧ x' = x)) := by
  obtain ⟨⟨h1, h2, h3, h4, h5⟩, h6⟩ := h
  refine ⟨pm_up (pm_up (pm_up (pm_up (pm_up v 30 S a) 31 S b) 32 S k) 33 S x) 29 8 ((S : Int) + 1), ?_, fun c hc => ?_, ⟨?_, ?_, ?_, h4, fun i hi => ?_⟩, fun a' b' k' x' => ?_⟩
  · rw [e_X10_add, b_X10_add_0, if_pos (by omega), b_X10_add_10, c_isThere ⟨h1, h2, h3, h4, h5⟩, qB_some, psh_some, b_X10_add_15, zb_0, if_pos (by omega), b_X10_add_18, c_isThere ⟨h1, h2, h3, h4, h5⟩, qB_some, psh_some, b_X10_add_23, zb_0, if_pos (by omega), b_X10_add_26, if_pos (by omega), h1, Int.toNat_natCast, b_X10_add_36]
    simp (disch := omega) only [up_ne, h1, if_pos, Int.toNat_natCast, b_X10_add_46, b_X10_add_56, b_X10_add_67, b_X10_add_77, w32_id]
  · rw [up_cell (by omega), up_cell (by omega), up_cell (by omega), up_cell (by omega), up_cell (by omega)]
  · rw [up_eq]; omega
  · omega
  · rw [up_ne (by omega), up_ne (by omega), up_ne (by omega), up_ne (by omega), up_ne (by omega)]; exact h3
  · by_cases hi2 : i = S
    · subst hi2
      simp (disch := omega) only [up_ne, up_eq]
      omega
    · simp (disch := omega) only [up_ne]
      exact h5 i (by omega)
  · dsimp only
    rw [← h6 a' b' k' x']
    constructor
    · rintro ⟨i, hi, g1, g2, g3, g4⟩
      by_cases hi2 : i = S
      · subst hi2
        simp (disch := omega) only [up_ne, up_eq] at g1 g2 g3 g4
        exact Or.inr ⟨by omega, by omega, g3.symm, g4.symm⟩
      · simp (disch := omega) only [up_ne] at g1 g2 g3 g4
        exact Or.inl ⟨i, by omega, g1, g2, g3, g4⟩
    · rintro (⟨i, hi, g1, g2, g3, g4⟩ | ⟨g1, g2, g3, g4⟩)
      · refine ⟨i, by omega, ?_⟩
        simp (disch := omega) only [up_ne]
        exact ⟨g1, g2, g3, g4⟩
      · refine ⟨S, by omega, ?_⟩
        simp (disch := omega) only [up_ne, up_eq]
        exact ⟨by omega, by omega, g3.symm, g4.symm⟩
theorem c_addBoth {S P : Nat} {T : Nat → Nat → Int → Int → Prop} (h : LyI v S P T) (hS : S + 1 < 172) {a b : Nat} (ha : a < P) (hb : b < P) {k x : Int} (hk : 1 ≤ k ∧ k ≤ 99) : ∃ v', qE L xs (d + 3) nX10_addBothWays [(2, 29), (0, (a : Int)), (0, (b : Int)), (0, k), (0, x)] (qS v) = some (none, qS v') ∧ (∀ c, c < 29 ∨ 33 < c → v' c = v c) ∧ LyI v' (S + 2) P (fun a' b' k' x' => T a' b' k' x' ∨ (((a' = a ∧ b' = b) ∨ (a' = b ∧ b' = a)) ∧ k' = k ∧ x' = x)) := by
  obtain ⟨v1, e1, e2, e3⟩ := c_add (L := L) (xs := xs) (d := d) h (by omega) ha hb (x := x) hk
  obtain ⟨v2, e4, e5, e6⟩ := c_add (L := L) (xs := xs) (d := d) e3 (by omega) hb ha (x := x) hk
  refine ⟨v2, ?_, fun c hc => (e5 c hc).trans (e2 c hc), LyI_if (fun a' b' k' x' => ?_) e6⟩
  · rw [e_X10_addBothWays, b_X10_addBothWays_0, e1, qB_some, psh_none, b_X10_addBothWays_9, e4, qB_some, psh_none, b_X10_addBothWays_18]
  · constructor
    · rintro ((g | ⟨g1, g2, g3, g4⟩) | ⟨g1, g2, g3, g4⟩)
      · exact Or.inl g
      · exact Or.inr ⟨Or.inl ⟨g1, g2⟩, g3, g4⟩
      · exact Or.inr ⟨Or.inr ⟨g1, g2⟩, g3, g4⟩
    · rintro (g | ⟨⟨g1, g2⟩ | ⟨g1, g2⟩, g3, g4⟩)
      · exact Or.inl (Or.inl g)
      · exact Or.inl (Or.inr ⟨g1, g2, g3, g4⟩)
      · exact Or.inr ⟨g1, g2, g3, g4⟩
theorem c_round {S P : Nat} {T : Nat → Nat → Int → Int → Prop} (h : LyI v S P T) (hS : S + 1 < 172) {a : Nat} (ha : a + 1 < P) {k : Int} (hk : 0 ≤ k ∧ k ≤ 99) : ∃ v' S', qE L xs (d + 4) nX10_layRound [(2, 29), (0, (a : Int)), (0, k)] (qS v) = some (none, qS v') ∧ (∀ c, c < 29 ∨ 33 < c → v' c = v c) ∧ S' ≤ S + 2 ∧ LyI v' S' P (fun a' b' k' x' => T a' b' k' x' ∨ (0 < k ∧ ((a' = a ∧ b' = a + 1) ∨ (a' = a + 1 ∧ b' = a)) ∧ k' = k ∧ x' = -1)) := by
  have hP := h.1.2.2.2.1
  by_cases h0 : 0 < k
  · obtain ⟨v1, e1, e2, e3⟩ := c_addBoth (L := L) (xs := xs) (d := d) h hS (a := a) (b := a + 1) (by omega) ha (x := -1) (k := k) (by omega)
    refine ⟨v1, S + 2, ?_, e2, by omega, LyI_if (fun a' b' k' x' => ?_) e3⟩
    · rw [e_X10_layRound, b_X10_layRound_0, if_pos h0, b_X10_layRound_4, w32_id (by omega) (by omega), show (a : Int) + 1 = ((a + 1 : Nat) : Int) by omega, e1, qB_some, psh_none, b_X10_layRound_14]
    · constructor
      · rintro (g | ⟨g1, g2, g3⟩)
        · exact Or.inl g
        · exact Or.inr ⟨h0, g1, g2, g3⟩
      · rintro (g | ⟨-, g1, g2, g3⟩)
        · exact Or.inl g
        · exact Or.inr ⟨g1, g2, g3⟩
  · refine ⟨v, S, ?_, fun _ _ => rfl, by omega, LyI_if (fun a' b' k' x' => ?_) h⟩
    · rw [e_X10_layRound, b_X10_layRound_0, if_neg h0, b_X10_layRound_14]
    · constructor
      · exact Or.inl
      · rintro (g | ⟨g, -⟩)
        · exact g
        · exact absurd g h0
end LY
end
section
/-! WAYS: lay() lays the steps that are there -/
section LZ
variable {L : Nat} {xs : Nat → Int} {d : Nat} {v : Nat → Nat → Int}
def uT (c : Nat → Nat → Nat → Int) (j a b : Nat) (k x : Int) : Prop := a < j ∧ b = a + 2 ∧ k = c (a / 2) (a % 2) 1 ∧ x = -1
def dT (c : Nat → Nat → Nat → Int) (j P a b : Nat) (k x : Int) : Prop := j ≤ a ∧ a < P ∧ b + 2 = a ∧ k = c (a / 2) (a % 2) 0 ∧ x = -1
theorem fW_ly {v w : Nat → Nat → Int} (h : ∀ c, c < 29 ∨ 33 < c → w c = v c) : fW v w := fW_own (fun c hc => h c (by omega))
theorem LyI_M {v w : Nat → Nat → Int} {S P : Nat} {T : Nat → Nat → Int → Int → Prop} (hc : fM v w) (h : LyI v S P T) : LyI w S P T := LyI_cg (fun c h1 h2 => hc.1 c (by omega) (by omega) (by omega)) h
theorem lp_up {c : Nat → Nat → Nat → Int} {P : Nat} (hP2 : P ≤ 60) : ∀ (n j : Nat) (v : Nat → Nat → Int), j + n + 2 = P → LM L xs v c → LyI v j P (uT c j) → ∃ v', qG L xs (d + 8) CX10_layAlong 2 [(2, 29), (2, 1), (2, 23), (0, (j : Int))] [] (qS v) = qG L xs (d + 8) CX10_layAlong 39 [(2, 29), (2, 1), (2, 23), (0, ((P - 2 : Nat) : Int))] [] (qS v') ∧ fW v v' ∧ LyI v' (P - 2) P (uT c (P - 2))
  | 0, j, v, hj, hM, h => by
    have h9 := h.1.2.2.1
    have hj2 : P - 2 = j := by omega
    rw [hj2]
    refine ⟨v, ?_, fW_r v, h⟩
    rw [b_X10_layAlong_2, h9, w32_id (by omega) (by omega), if_neg (by omega)]
  | n + 1, j, v, hj, hM, h => by
    have h9 := h.1.2.2.1
    obtain ⟨v1, e1, e2⟩ := hM.2 v (gW_r v) d (j / 2) (j % 2) 1 (by omega) (by omega) (by omega)
    have hk := hM.1 (j / 2) (j % 2) 1
    obtain ⟨v2, e3, e4, e5⟩ := c_add (L := L) (xs := xs) (d := d + 6) (LyI_M e2 h) (by omega) (a := j) (b := j + 2) (by omega) (by omega) (x := -1) hk
    have f2 : fW v v2 := fW_t (fM_W e2) (fW_ly e4)
    obtain ⟨v3, e6, e7, e8⟩ := lp_up hP2 n (j + 1) v2 (by omega) (LM_W hM f2) (LyI_if (fun a b k x => by
      unfold uT
      constructor
      · rintro (⟨g1, g2, g3, g4⟩ | ⟨rfl, g2, g3, g4⟩)
        · exact ⟨by omega, g2, g3, g4⟩
        · exact ⟨by omega, g2, g3, g4⟩
      · rintro ⟨g1, g2, g3, g4⟩
        by_cases ha : a = j
        · subst ha
          exact Or.inr ⟨rfl, g2, g3, g4⟩
        · exact Or.inl ⟨by omega, g2, g3, g4⟩) e5)
    refine ⟨v3, ?_, fW_t f2 e7, e8⟩
    refine Eq.trans ?_ e6
    rw [b_X10_layAlong_2, h9, w32_id (by omega) (by omega), if_pos (by omega), b_X10_layAlong_12, half_p j (by omega), odd_p]
    have e1' : qE L xs (d + 8) nX5_minutes [(2, 23), (2, 1), (0, ((j / 2 : Nat) : Int)), (0, ((j % 2 : Nat) : Int)), (0, 1)] (qS v) = _ := e1
    rw [e1', qB_some, psh_some, w32_id (by omega) (by omega), show (j : Int) + 2 = ((j + 2 : Nat) : Int) by omega, b_X10_layAlong_29, e3, qB_some, psh_none, b_X10_layAlong_33, w32_id (by omega) (by omega)]
    rfl
theorem lp_dn {c : Nat → Nat → Nat → Int} {P : Nat} (hP2 : P ≤ 60) (hP3 : 2 ≤ P) : ∀ (n j : Nat) (v : Nat → Nat → Int), j = n + 2 → j ≤ P → LM L xs v c → LyI v (P - 2 + (P - j)) P (fun a b k x => uT c (P - 2) a b k x ∨ dT c j P a b k x) → ∃ v', qG L xs (d + 8) CX10_layAlong 46 [(2, 29), (2, 1), (2, 23), (0, (j : Int) - 1)] [] (qS v) = some (none, qS v') ∧ fW v v' ∧ LyI v' (P - 2 + (P - 2)) P (fun a b k x => uT c (P - 2) a b k x ∨ dT c 2 P a b k x)
  | 0, j, v, hj, hjP, hM, h => by
    have hj2 : j = 2 := by omega
    subst hj2
    refine ⟨v, ?_, fW_r v, h⟩
    rw [b_X10_layAlong_46, if_pos (by omega), b_X10_layAlong_78]
  | n + 1, j, v, hj, hjP, hM, h => by
    obtain ⟨i, hi⟩ : ∃ i, j = i + 1 := ⟨j - 1, by omega⟩
    subst hi
    obtain ⟨v1, e1, e2⟩ := hM.2 v (gW_r v) d (i / 2) (i % 2) 0 (by omega) (by omega) (by omega)
    have hk := hM.1 (i / 2) (i % 2) 0
    obtain ⟨v2, e3, e4, e5⟩ := c_add (L := L) (xs := xs) (d := d + 6) (LyI_M e2 h) (by omega) (a := i) (b := i - 2) (by omega) (by omega) (x := -1) hk
    have f2 : fW v v2 := fW_t (fM_W e2) (fW_ly e4)
    rw [show P - 2 + (P - (i + 1)) + 1 = P - 2 + (P - i) by omega] at e5
    obtain ⟨v3, e6, e7, e8⟩ := lp_dn hP2 hP3 n i v2 (by omega) (by omega) (LM_W hM f2) (LyI_if (fun a b k x => by
      unfold dT
      constructor
      · rintro ((g | ⟨g1, g2, g3, g4⟩) | ⟨rfl, g2, g3, g4⟩)
        · exact Or.inl g
        · exact Or.inr ⟨by omega, g2, g3, g4⟩
        · exact Or.inr ⟨by omega, by omega, by omega, g3, g4⟩
      · rintro (g | ⟨g1, g2, g3, g4⟩)
        · exact Or.inl (Or.inl g)
        · by_cases ha : a = i
          · subst ha
            exact Or.inr ⟨rfl, by omega, g4⟩
          · exact Or.inl (Or.inr ⟨by omega, g2, g3, g4⟩)) e5)
    refine ⟨v3, ?_, fW_t f2 e7, e8⟩
    refine Eq.trans ?_ e6
    rw [show ((i + 1 : Nat) : Int) - 1 = (i : Int) by omega, b_X10_layAlong_46, if_neg (by omega), b_X10_layAlong_51, half_p i (by omega), odd_p]
    have e1' : qE L xs (d + 8) nX5_minutes [(2, 23), (2, 1), (0, ((i / 2 : Nat) : Int)), (0, ((i % 2 : Nat) : Int)), (0, 0)] (qS v) = _ := e1
    rw [e1', qB_some, psh_some, w32_id (by omega) (by omega), show (i : Int) - 2 = ((i - 2 : Nat) : Int) by omega, b_X10_layAlong_68, e3, qB_some, psh_none, b_X10_layAlong_72, w32_id (by omega) (by omega)]
    rfl
theorem c_layAlong {c : Nat → Nat → Nat → Int} {P : Nat} (hP2 : P ≤ 60) (hP3 : 2 ≤ P) (hM : LM L xs v c) (h : LyI v 0 P (fun _ _ _ _ => False)) : ∃ v', qE L xs (d + 9) nX10_layAlong [(2, 29), (2, 1), (2, 23)] (qS v) = some (none, qS v') ∧ fW v v' ∧ LyI v' (P - 2 + (P - 2)) P (fun a b k x => uT c (P - 2) a b k x ∨ dT c 2 P a b k x) := by
  obtain ⟨v1, e1, e2, e3⟩ := lp_up (L := L) (xs := xs) (d := d) hP2 (P - 2) 0 v (by omega) hM (LyI_if (fun a b k x => ⟨False.elim, fun g => absurd g.1 (by omega)⟩) h)
  have h9 := e3.1.2.2.1
  obtain ⟨v2, e4, e5, e6⟩ := lp_dn (L := L) (xs := xs) (d := d) (c := c) hP2 hP3 (P - 2) P v1 (by omega) (by omega) (LM_W hM e2) (by
    rw [show P - 2 + (P - P) = P - 2 by omega]
    refine LyI_if (fun a b k x => ⟨Or.inl, ?_⟩) e3
    rintro (g | ⟨g1, g2, g3⟩)
    · exact g
    · omega)
  refine ⟨v2, ?_, fW_t e2 e5, e6⟩
  rw [e_X10_layAlong, b_X10_layAlong_0]
  refine Eq.trans e1 ?_
  rw [b_X10_layAlong_39, h9, w32_id (by omega) (by omega)]
  exact e4
theorem c_isHoleOpen (hW : WW v) (h : Nat) (hh : (h : Int) < v 1 1) : qE L xs (d + 4) nX9_isHoleOpen [(2, 1), (0, (h : Int))] (qS v) = some (some (0, zb (v 6 h = 1 ∧ 0 ≤ v 15 h ∧ v 15 h < v 11 0)), qS v) := by
  obtain ⟨h1, h2, h3, h4, h5, h6⟩ := hW
  have a3 : hm v 3 = v 1 1 := rfl
  have a12 : hm v 12 = v 1 1 := rfl
  rw [e_X9_isHoleOpen, b_X9_isHoleOpen_0, c_value_in 3 h (by omega) (by omega) (by omega) (by omega) (by omega), qB_some, psh_some]
  rw [show v (3 + (3 : Int).toNat) (h : Int).toNat = v 6 h from rfl, b_X9_isHoleOpen_6]
  by_cases g : v 6 h = 1
  · rw [if_pos g, b_X9_isHoleOpen_10, c_value_in 12 h (by omega) (by omega) (by omega) (by omega) (by omega), qB_some, psh_some, show v (3 + (12 : Int).toNat) (h : Int).toNat = v 15 h from rfl, b_X9_isHoleOpen_18, c_hasYard, qB_some, psh_some, b_X9_isHoleOpen_21, zb_0]
    by_cases g2 : 0 ≤ v 15 h ∧ v 15 h < v 11 0
    · rw [if_pos g2, b_X9_isHoleOpen_24, b_X9_isHoleOpen_29, if_pos (by omega), zb_t ⟨g, g2⟩]
    · rw [if_neg g2, b_X9_isHoleOpen_28, b_X9_isHoleOpen_29, if_pos (by omega), zb_f (fun q => g2 q.2)]
  · rw [if_neg g, b_X9_isHoleOpen_28, b_X9_isHoleOpen_29, if_pos (by omega), zb_f (fun q => g q.1)]
theorem c_isLaneOpen (hW : WW v) (l : Nat) (hl : (l : Int) < v 1 2) : qE L xs (d + 4) nX9_isLaneOpen [(2, 1), (0, (l : Int))] (qS v) = some (some (0, zb (v 8 l = 1 ∧ (0 ≤ v 16 l ∧ v 16 l < 2 * v 11 0) ∧ 0 ≤ v 17 l ∧ v 17 l < 2 * v 11 0)), qS v) := by
  obtain ⟨h1, h2, h3, h4, h5, h6⟩ := hW
  have a5 : hm v 5 = v 1 2 := rfl
  have a13 : hm v 13 = v 1 2 := rfl
  have a14 : hm v 14 = v 1 2 := rfl
  rw [e_X9_isLaneOpen, b_X9_isLaneOpen_0, c_value_in 5 l (by omega) (by omega) (by omega) (by omega) (by omega), qB_some, psh_some]
  rw [show v (3 + (5 : Int).toNat) (l : Int).toNat = v 8 l from rfl, b_X9_isLaneOpen_6]
  by_cases g : v 8 l = 1
  · rw [if_pos g, b_X9_isLaneOpen_10, c_value_in 13 l (by omega) (by omega) (by omega) (by omega) (by omega), qB_some, psh_some, show v (3 + (13 : Int).toNat) (l : Int).toNat = v 16 l from rfl, b_X9_isLaneOpen_18, c_hasPlace (by omega) (by omega), qB_some, psh_some, b_X9_isLaneOpen_21, zb_0]
    by_cases g2 : 0 ≤ v 16 l ∧ v 16 l < 2 * v 11 0
    · rw [if_pos g2, b_X9_isLaneOpen_24, c_value_in 14 l (by omega) (by omega) (by omega) (by omega) (by omega), qB_some, psh_some, show v (3 + (14 : Int).toNat) (l : Int).toNat = v 17 l from rfl, b_X9_isLaneOpen_32, c_hasPlace (by omega) (by omega), qB_some, psh_some, b_X9_isLaneOpen_35, zb_0]
      by_cases g3 : 0 ≤ v 17 l ∧ v 17 l < 2 * v 11 0
      · rw [if_pos g3, b_X9_isLaneOpen_38, b_X9_isLaneOpen_43, if_pos (by omega), zb_t ⟨g, g2, g3⟩]
      · rw [if_neg g3, b_X9_isLaneOpen_42, b_X9_isLaneOpen_43, if_pos (by omega), zb_f (fun q => g3 q.2.2)]
    · rw [if_neg g2, b_X9_isLaneOpen_42, b_X9_isLaneOpen_43, if_pos (by omega), zb_f (fun q => g2 q.2.1)]
  · rw [if_neg g, b_X9_isLaneOpen_42, b_X9_isLaneOpen_43, if_pos (by omega), zb_f (fun q => g q.1)]
end LZ
end
section
/-! WAYS: lay(), its holes, lanes and ends -/
section LC
variable {L : Nat} {xs : Nat → Int} {d : Nat} {v : Nat → Nat → Int}
theorem ly_c {v w : Nat → Nat → Int} (h : ∀ c, c < 29 ∨ 33 < c → w c = v c) : WW w = WW v ∧ sHo w = sHo v ∧ sLa w = sLa v := ⟨WW_W (fW_ly h), sHo_W (fW_ly h), sLa_W (fW_ly h)⟩
theorem lp_holes {R : Nat → Nat → Nat → Int → Prop} {T0 : Nat → Nat → Int → Int → Prop} {P H S0 : Nat} (hS0 : S0 + 2 * H ≤ 172) : ∀ (n h S : Nat) (v : Nat → Nat → Int) (u4 : pm_V), h + n = H → v 1 1 = (H : Int) → WW v → 2 * v 11 0 = (P : Int) → sHo v = R → S ≤ S0 + 2 * h → LyI v S P (fun a b k x => T0 a b k x ∨ ∃ j, j < h ∧ R j a b k ∧ x = (j : Int)) → ∃ v' S' w4, qG L xs (d + 9) CX10_lay 26 [(2, 29), (2, 1), (2, 23), (0, (h : Int)), u4] [] (qS v) = qG L xs (d + 9) CX10_lay 76 [(2, 29), (2, 1), (2, 23), (0, (H : Int)), w4] [] (qS v') ∧ (∀ c, c < 29 ∨ 33 < c → v' c = v c) ∧ S' ≤ S0 + 2 * H ∧ LyI v' S' P (fun a b k x => T0 a b k x ∨ ∃ j, j < H ∧ R j a b k ∧ x = (j : Int))
  | 0, h, S, v, u4, hh, hH, hW, hP, hR, hS, hL => by
    have hhH : h = H := by omega
    subst hhH
    refine ⟨v, S, u4, ?_, fun _ _ => rfl, hS, hL⟩
    rw [b_X10_lay_26, if_neg (by omega)]
  | n + 1, h, S, v, u4, hh, hH, hW, hP, hR, hS, hL => by
    obtain ⟨q1, q2, q3, q4, q5, q6⟩ := hW
    have r4 := (q4 h (by omega)).1
    have a4 : hm v 4 = v 1 1 := rfl
    have a12 : hm v 12 = v 1 1 := rfl
    by_cases g : v 6 h = 1 ∧ 0 ≤ v 15 h ∧ v 15 h < v 11 0
    · obtain ⟨v1, e1, e2, e3⟩ := c_addBoth (L := L) (xs := xs) (d := d + 6) hL (by omega) (a := 2 * (v 15 h).toNat) (b := 2 * (v 15 h).toNat + 1) (by omega) (by omega) (x := (h : Int)) (k := v 7 h) (by omega)
      obtain ⟨c1, c2, -⟩ := ly_c e2
      obtain ⟨v2, S2, w4, e4, e5, e6, e7⟩ := lp_holes (R := R) hS0 n (h + 1) (S + 2) v1 (0, 2 * v 15 h) (by omega) (by rw [e2 1 (by omega)]; exact hH) (by rw [c1]; exact ⟨q1, q2, q3, q4, q5, q6⟩) (by rw [e2 11 (by omega)]; exact hP) (by rw [c2]; exact hR) (by omega) (LyI_if (fun a b k x => by
        have hRh : ∀ a b k, R h a b k ↔ (((a = 2 * (v 15 h).toNat ∧ b = 2 * (v 15 h).toNat + 1) ∨ (a = 2 * (v 15 h).toNat + 1 ∧ b = 2 * (v 15 h).toNat)) ∧ k = v 7 h) := fun a b k => by
          rw [← hR]
          exact ⟨fun w => w.2, fun w => ⟨g, w⟩⟩
        constructor
        · rintro ((g1 | ⟨j, g1, g2, g3⟩) | ⟨g1, g2, g3⟩)
          · exact Or.inl g1
          · exact Or.inr ⟨j, by omega, g2, g3⟩
          · exact Or.inr ⟨h, by omega, (hRh a b k).mpr ⟨g1, g2⟩, g3⟩
        · rintro (g1 | ⟨j, g1, g2, g3⟩)
          · exact Or.inl (Or.inl g1)
          · by_cases hj : j = h
            · subst hj
              have g4 := (hRh a b k).mp g2
              exact Or.inr ⟨g4.1, g4.2, g3⟩
            · exact Or.inl (Or.inr ⟨j, by omega, g2, g3⟩)) e3)
      refine ⟨v2, S2, w4, ?_, fun c hc => (e5 c hc).trans (e2 c hc), e6, e7⟩
      refine Eq.trans ?_ e4
      rw [b_X10_lay_26, if_pos (by omega), b_X10_lay_34, c_isHoleOpen ⟨q1, q2, q3, q4, q5, q6⟩ h (by omega), qB_some, psh_some, b_X10_lay_39, zb_0, if_pos g, b_X10_lay_42, c_value_in 12 h (by omega) (by omega) (by omega) (by omega) (by omega), qB_some, psh_some, show v (3 + (12 : Int).toNat) (h : Int).toNat = v 15 h from rfl, b_X10_lay_50, c_value_in 4 h (by omega) (by omega) (by omega) (by omega) (by omega), qB_some, psh_some, show v (3 + (4 : Int).toNat) (h : Int).toNat = v 7 h from rfl, w32_id (z := 2 * v 15 h) (by omega) (by omega), w32_id (by omega) (by omega), b_X10_lay_66]
      rw [show 2 * v 15 h + 1 = ((2 * (v 15 h).toNat + 1 : Nat) : Int) by omega, show 2 * v 15 h = ((2 * (v 15 h).toNat : Nat) : Int) by omega, e1, qB_some, psh_none, b_X10_lay_70, w32_id (by omega) (by omega)]
      rfl
    · obtain ⟨v2, S2, w4, e4, e5, e6, e7⟩ := lp_holes (R := R) hS0 n (h + 1) S v u4 (by omega) hH ⟨q1, q2, q3, q4, q5, q6⟩ hP hR (by omega) (LyI_if (fun a b k x => by
        have hRh : ∀ a b k, ¬ R h a b k := fun a b k w => by
          rw [← hR] at w
          exact g w.1
        constructor
        · rintro (g1 | ⟨j, g1, g2, g3⟩)
          · exact Or.inl g1
          · exact Or.inr ⟨j, by omega, g2, g3⟩
        · rintro (g1 | ⟨j, g1, g2, g3⟩)
          · exact Or.inl g1
          · by_cases hj : j = h
            · subst hj
              exact absurd g2 (hRh a b k)
            · exact Or.inr ⟨j, by omega, g2, g3⟩) hL)
      refine ⟨v2, S2, w4, ?_, e5, e6, e7⟩
      refine Eq.trans ?_ e4
      rw [b_X10_lay_26, if_pos (by omega), b_X10_lay_34, c_isHoleOpen ⟨q1, q2, q3, q4, q5, q6⟩ h (by omega), qB_some, psh_some, b_X10_lay_39, zb_0, if_neg g, b_X10_lay_70, w32_id (by omega) (by omega)]
      rfl
theorem lp_lanes {R : Nat → Nat → Nat → Int → Prop} {T0 : Nat → Nat → Int → Int → Prop} {P H S0 : Nat} (hS0 : S0 + 2 * H ≤ 172) : ∀ (n h S : Nat) (v : Nat → Nat → Int) (u4 : pm_V), h + n = H → v 1 2 = (H : Int) → WW v → 2 * v 11 0 = (P : Int) → sLa v = R → S ≤ S0 + 2 * h → LyI v S P (fun a b k x => T0 a b k x ∨ ∃ j, j < h ∧ R j a b k ∧ x = 12 + (j : Int)) → ∃ v' S' w4, qG L xs (d + 9) CX10_lay 78 [(2, 29), (2, 1), (2, 23), (0, (h : Int)), u4] [] (qS v) = qG L xs (d + 9) CX10_lay 129 [(2, 29), (2, 1), (2, 23), (0, (H : Int)), w4] [] (qS v') ∧ (∀ c, c < 29 ∨ 33 < c → v' c = v c) ∧ S' ≤ S0 + 2 * H ∧ LyI v' S' P (fun a b k x => T0 a b k x ∨ ∃ j, j < H ∧ R j a b k ∧ x = 12 + (j : Int))
  | 0, h, S, v, u4, hh, hH, hW, hP, hR, hS, hL => by
    have hhH : h = H := by omega
    subst hhH
    refine ⟨v, S, u4, ?_, fun _ _ => rfl, hS, hL⟩
    rw [b_X10_lay_78, if_neg (by omega)]
  | n + 1, h, S, v, u4, hh, hH, hW, hP, hR, hS, hL => by
    obtain ⟨q1, q2, q3, q4, q5, q6⟩ := hW
    have r4 := (q4 h (by omega)).2
    have a6 : hm v 6 = v 1 2 := rfl
    have a13 : hm v 13 = v 1 2 := rfl
    have a14 : hm v 14 = v 1 2 := rfl
    by_cases g : v 8 h = 1 ∧ (0 ≤ v 16 h ∧ v 16 h < 2 * v 11 0) ∧ 0 ≤ v 17 h ∧ v 17 h < 2 * v 11 0
    · obtain ⟨v1, e1, e2, e3⟩ := c_addBoth (L := L) (xs := xs) (d := d + 6) hL (by omega) (a := (v 16 h).toNat) (b := (v 17 h).toNat) (by omega) (by omega) (x := 12 + (h : Int)) (k := v 9 h) (by omega)
      obtain ⟨c1, -, c2⟩ := ly_c e2
      obtain ⟨v2, S2, w4, e4, e5, e6, e7⟩ := lp_lanes (R := R) hS0 n (h + 1) (S + 2) v1 u4 (by omega) (by rw [e2 1 (by omega)]; exact hH) (by rw [c1]; exact ⟨q1, q2, q3, q4, q5, q6⟩) (by rw [e2 11 (by omega)]; exact hP) (by rw [c2]; exact hR) (by omega) (LyI_if (fun a b k x => by
        have hRh : ∀ a b k, R h a b k ↔ (((a = (v 16 h).toNat ∧ b = (v 17 h).toNat) ∨ (a = (v 17 h).toNat ∧ b = (v 16 h).toNat)) ∧ k = v 9 h) := fun a b k => by
          rw [← hR]
          exact ⟨fun w => w.2, fun w => ⟨g, w⟩⟩
        constructor
        · rintro ((g1 | ⟨j, g1, g2, g3⟩) | ⟨g1, g2, g3⟩)
          · exact Or.inl g1
          · exact Or.inr ⟨j, by omega, g2, g3⟩
          · exact Or.inr ⟨h, by omega, (hRh a b k).mpr ⟨g1, g2⟩, g3⟩
        · rintro (g1 | ⟨j, g1, g2, g3⟩)
          · exact Or.inl (Or.inl g1)
          · by_cases hj : j = h
            · subst hj
              have g4 := (hRh a b k).mp g2
              exact Or.inr ⟨g4.1, g4.2, g3⟩
            · exact Or.inl (Or.inr ⟨j, by omega, g2, g3⟩)) e3)
      refine ⟨v2, S2, w4, ?_, fun c hc => (e5 c hc).trans (e2 c hc), e6, e7⟩
      refine Eq.trans ?_ e4
      rw [b_X10_lay_78, if_pos (by omega), b_X10_lay_86, c_isLaneOpen ⟨q1, q2, q3, q4, q5, q6⟩ h (by omega), qB_some, psh_some, b_X10_lay_91, zb_0, if_pos g, b_X10_lay_94, c_value_in 13 h (by omega) (by omega) (by omega) (by omega) (by omega), qB_some, psh_some, show v (3 + (13 : Int).toNat) (h : Int).toNat = v 16 h from rfl, b_X10_lay_102, c_value_in 14 h (by omega) (by omega) (by omega) (by omega) (by omega), qB_some, psh_some, show v (3 + (14 : Int).toNat) (h : Int).toNat = v 17 h from rfl, b_X10_lay_109, c_value_in 6 h (by omega) (by omega) (by omega) (by omega) (by omega), qB_some, psh_some, show v (3 + (6 : Int).toNat) (h : Int).toNat = v 9 h from rfl, b_X10_lay_116, w32_id (z := 12 + (h : Int)) (by omega) (by omega)]
      have e1' : qE L xs (d + 9) nX10_addBothWays [(2, 29), (0, v 16 h), (0, v 17 h), (0, v 9 h), (0, 12 + (h : Int))] (qS v) = some (none, qS v1) := by
        rw [show ((v 16 h).toNat : Int) = v 16 h by omega, show ((v 17 h).toNat : Int) = v 17 h by omega] at e1
        exact e1
      rw [e1', qB_some, psh_none, b_X10_lay_123, w32_id (by omega) (by omega)]
      rfl
    · obtain ⟨v2, S2, w4, e4, e5, e6, e7⟩ := lp_lanes (R := R) hS0 n (h + 1) S v u4 (by omega) hH ⟨q1, q2, q3, q4, q5, q6⟩ hP hR (by omega) (LyI_if (fun a b k x => by
        have hRh : ∀ a b k, ¬ R h a b k := fun a b k w => by
          rw [← hR] at w
          exact g w.1
        constructor
        · rintro (g1 | ⟨j, g1, g2, g3⟩)
          · exact Or.inl g1
          · exact Or.inr ⟨j, by omega, g2, g3⟩
        · rintro (g1 | ⟨j, g1, g2, g3⟩)
          · exact Or.inl g1
          · by_cases hj : j = h
            · subst hj
              exact absurd g2 (hRh a b k)
            · exact Or.inr ⟨j, by omega, g2, g3⟩) hL)
      refine ⟨v2, S2, w4, ?_, e5, e6, e7⟩
      refine Eq.trans ?_ e4
      rw [b_X10_lay_78, if_pos (by omega), b_X10_lay_86, c_isLaneOpen ⟨q1, q2, q3, q4, q5, q6⟩ h (by omega), qB_some, psh_some, b_X10_lay_91, zb_0, if_neg g, b_X10_lay_123, w32_id (by omega) (by omega)]
      rfl
/-- lay() lays all steps that are there -/
theorem c_lay {c : Nat → Nat → Nat → Int} {P : Nat} (hW : WW v) (hP : 2 * v 11 0 = (P : Int)) (hM : LM L xs v c) : ∃ v' S, qE L xs (d + 10) nX10_lay [(2, 29), (2, 1), (2, 23)] (qS v) = some (none, qS v') ∧ fW v v' ∧ LyI v' S P (TT v c) := by
  have hW0 := hW
  obtain ⟨q1, q2, q3, q4, q5, q6⟩ := hW
  obtain ⟨H, hH⟩ : ∃ H : Nat, v 1 1 = (H : Int) := ⟨(v 1 1).toNat, by omega⟩
  obtain ⟨N, hN⟩ : ∃ N : Nat, v 1 2 = (N : Int) := ⟨(v 1 2).toNat, by omega⟩
  have f1 : ∀ c, c < 29 ∨ 33 < c → pm_up (pm_up v 29 8 0) 29 9 P c = v c := fun c hc => by rw [up_cell (by omega), up_cell (by omega)]
  obtain ⟨v1, e1, e2, e3⟩ := c_layAlong (L := L) (xs := xs) (d := d) (v := pm_up (pm_up v 29 8 0) 29 9 P) (c := c) (P := P) (by omega) (by omega) (LM_W hM (fW_ly f1)) ⟨⟨by rw [up_ne (by omega), up_eq]; rfl, by omega, by rw [up_eq], by omega, fun i hi => absurd hi (by omega)⟩, fun a b k x => ⟨fun ⟨i, hi, _⟩ => absurd hi (by omega), False.elim⟩⟩
  have g1 : fW v v1 := fW_t (fW_ly f1) e2
  obtain ⟨v2, S2, w4, e4, e5, e6, e7⟩ := lp_holes (L := L) (xs := xs) (d := d) (R := sHo v) (H := H) (S0 := P - 2 + (P - 2)) (by omega) H 0 (P - 2 + (P - 2)) v1 (9, 0) (by omega) (by rw [fW_c g1 (c := 1) (by omega)]; exact hH) (by rw [WW_W g1]; exact hW0) (by rw [fW_c g1 (c := 11) (by omega)]; exact hP) (sHo_W g1) (by omega) (LyI_if (fun a b k x => ⟨Or.inl, fun w => by
    rcases w with w | ⟨j, hj, -⟩
    · exact w
    · exact absurd hj (by omega)⟩) e3)
  have g2 : fW v v2 := fW_t g1 (fW_ly e5)
  obtain ⟨v3, S3, w5, e8, e9, e10, e11⟩ := lp_lanes (L := L) (xs := xs) (d := d) (R := sLa v) (H := N) (S0 := S2) (by omega) N 0 S2 v2 w4 (by omega) (by rw [fW_c g2 (c := 1) (by omega)]; exact hN) (by rw [WW_W g2]; exact hW0) (by rw [fW_c g2 (c := 11) (by omega)]; exact hP) (sLa_W g2) (by omega) (LyI_if (fun a b k x => ⟨Or.inl, fun w => by
    rcases w with w | ⟨j, hj, -⟩
    · exact w
    · exact absurd hj (by omega)⟩) e7)
  have g3 : fW v v3 := fW_t g2 (fW_ly e9)
  have k10 := fW_c g3 (c := 10) (by omega)
  have a7 : hm v3 7 = 2 := rfl
  obtain ⟨v4, S4, e12, e13, e14, e15⟩ := c_round (L := L) (xs := xs) (d := d + 5) e11 (by omega) (a := 0) (by omega) (k := v 10 0) (by omega)
  have g4 : fW v v4 := fW_t g3 (fW_ly e13)
  have k10b := fW_c g4 (c := 10) (by omega)
  have a7b : hm v4 7 = 2 := rfl
  obtain ⟨v5, S5, e16, e17, e18, e19⟩ := c_round (L := L) (xs := xs) (d := d + 5) e15 (by omega) (a := P - 2) (by omega) (k := v 10 1) (by omega)
  have g5 : fW v v5 := fW_t g4 (fW_ly e17)
  refine ⟨v5, S5, ?_, g5, LyI_if (fun a b k x => ?_) e19⟩
  · have h94 := e15.1.2.2.1
    rw [e_X10_lay, b_X10_lay_0, b_X10_lay_5, c_placesNow (by rw [up_cell (by omega)]; omega) (by rw [up_cell (by omega)]; omega), qB_some, psh_some, b_X10_lay_10, up_cell (a := 11) (by omega), hP, show pm_min (P : Int) 60 = (P : Int) from if_neg (by omega), b_X10_lay_18, e1, qB_some, psh_none, b_X10_lay_24]
    refine Eq.trans e4 ?_
    rw [b_X10_lay_76]
    refine Eq.trans e8 ?_
    rw [b_X10_lay_129, c_value_in 7 0 (by omega) (by omega) (by omega) (by omega) (by omega), qB_some, psh_some, show v3 (3 + (7 : Int).toNat) (0 : Int).toNat = v3 10 0 from rfl, k10, b_X10_lay_138]
    have e12' : qE L xs (d + 9) nX10_layRound [(2, 29), (0, 0), (0, v 10 0)] (qS v3) = some (none, qS v4) := e12
    rw [e12', qB_some, psh_none, b_X10_lay_141, c_value_in 7 1 (by omega) (by omega) (by omega) (by omega) (by omega), qB_some, psh_some, show v4 (3 + (7 : Int).toNat) (1 : Int).toNat = v4 10 1 from rfl, k10b, h94, w32_id (by omega) (by omega), b_X10_lay_155, show (P : Int) - 2 = ((P - 2 : Nat) : Int) by omega, e16, qB_some, psh_none, b_X10_lay_158]
  · have hY : (v 11 0 - 1).toNat = P / 2 - 1 := by omega
    unfold TT sRo uT dT sUp sDn thr
    rw [hY]
    constructor
    · rintro ((((((⟨w1, w2, w3, w4⟩ | ⟨w1, w2, w3, w4, w5⟩)) | ⟨j, w1, w2, w3⟩) | ⟨j, w1, w2, w3⟩) | ⟨w1, w2, w3, w4⟩) | ⟨w1, w2, w3, w4⟩)
      · exact Or.inl ⟨Or.inl ⟨by omega, w2, w3⟩, w4⟩
      · exact Or.inl ⟨Or.inr ⟨by omega, w3, w4⟩, w5⟩
      · exact Or.inr (Or.inl ⟨j, by omega, w2, w3⟩)
      · exact Or.inr (Or.inr (Or.inl ⟨j, by omega, w2, w3⟩))
      · exact Or.inr (Or.inr (Or.inr ⟨Or.inl ⟨w1, by omega, w3⟩, w4⟩))
      · exact Or.inr (Or.inr (Or.inr ⟨Or.inr ⟨w1, by omega, w3⟩, w4⟩))
    · rintro (⟨⟨w1, w2, w3⟩ | ⟨w1, w2, w3⟩, w4⟩ | ⟨j, w1, w2, w3⟩ | ⟨j, w1, w2, w3⟩ | ⟨⟨w1, w2, w3⟩ | ⟨w1, w2, w3⟩, w4⟩)
      · exact Or.inl (Or.inl (Or.inl (Or.inl (Or.inl ⟨by omega, w2, w3, w4⟩))))
      · exact Or.inl (Or.inl (Or.inl (Or.inl (Or.inr ⟨by omega, by omega, w2, w3, w4⟩))))
      · exact Or.inl (Or.inl (Or.inl (Or.inr ⟨j, by omega, w2, w3⟩)))
      · exact Or.inl (Or.inl (Or.inr ⟨j, by omega, w2, w3⟩))
      · exact Or.inl (Or.inr ⟨w1, by omega, w3, w4⟩)
      · exact Or.inr ⟨w1, by omega, w3, w4⟩
end LC
end
section
/-! THE REFERENCE's matrix of steps -/
section AK
variable {L : Nat} {xs : Nat → Int} {d : Nat} {v : Nat → Nat → Int}
/-- the steps that are there: a hole more, a hole shut, a lane shut -/
def SG (v : Nat → Nat → Int) (c : Nat → Nat → Nat → Int) (al sh sl : Int) (a b : Nat) (k : Int) : Prop := (sUp (v 11 0) c a b k ∨ sDn (v 11 0) c a b k) ∨ (∃ h : Nat, (h : Int) < v 1 1 ∧ (h : Int) ≠ sh ∧ sHo v h a b k) ∨ (0 ≤ al ∧ thr al.toNat a b ∧ k = 1) ∨ (∃ l : Nat, (l : Int) < v 1 2 ∧ (l : Int) ≠ sl ∧ sLa v l a b k) ∨ sRo v a b k
theorem SG_W {v w : Nat → Nat → Int} (hw : fW v w) : SG w = SG v := by
  funext c al sh sl a b k
  unfold SG sRo
  rw [sHo_W hw, sLa_W hw, fW_c hw (c := 11) (by omega), fW_c hw (c := 10) (by omega), fW_c hw (c := 1) (by omega)]
/-- what a spreading without a crossing goes by -/
theorem EC_SG {v' : Nat → Nat → Int} {S P : Nat} {c : Nat → Nat → Nat → Int} (hW : WW v) (h : LyI v' S P (TT v c)) {x : Int} (hx : -1 ≤ x) (a b : Nat) (k : Int) : EC v' S x a b k ↔ SG v c (-1) (if x < 12 then x else -1) (if x < 12 then -1 else x - 12) a b k := by
  obtain ⟨q1, q2, q3, q4, q5, q6⟩ := hW
  have hT := h.2 a b k
  constructor
  · rintro ⟨i, hi, h1, h2, h3, h4⟩
    have ht := (hT (v' 33 i)).mp ⟨i, hi, h1, h2, h3, rfl⟩
    unfold SG
    rcases ht with ⟨w1, w2⟩ | ⟨j, w1, w2, w3⟩ | ⟨j, w1, w2, w3⟩ | ⟨w1, w2⟩
    · exact Or.inl w1
    · refine Or.inr (Or.inl ⟨j, w1, ?_, w2⟩)
      by_cases g : x < 12
      · rw [if_pos g]; omega
      · rw [if_neg g]; omega
    · refine Or.inr (Or.inr (Or.inr (Or.inl ⟨j, w1, ?_, w2⟩)))
      by_cases g : x < 12
      · rw [if_pos g]; omega
      · rw [if_neg g]; omega
    · exact Or.inr (Or.inr (Or.inr (Or.inr w1)))
  · intro hs
    have hg : ∀ y, TT v c a b k y → (x = -1 ∨ y ≠ x) → EC v' S x a b k := fun y hy hyx => by
      obtain ⟨i, hi, h1, h2, h3, h4⟩ := (hT y).mpr hy
      exact ⟨i, hi, h1, h2, h3, by rw [h4]; exact hyx⟩
    unfold SG at hs
    rcases hs with w | ⟨j, w1, w2, w3⟩ | ⟨w, -⟩ | ⟨j, w1, w2, w3⟩ | w
    · exact hg (-1) (Or.inl ⟨w, rfl⟩) (by omega)
    · refine hg (j : Int) (Or.inr (Or.inl ⟨j, w1, w3, rfl⟩)) ?_
      by_cases g : x < 12
      · rw [if_pos g] at w2; omega
      · omega
    · exact absurd w (by omega)
    · refine hg (12 + (j : Int)) (Or.inr (Or.inr (Or.inl ⟨j, w1, w3, rfl⟩))) ?_
      by_cases g : x < 12
      · omega
      · rw [if_neg g] at w2; omega
    · exact hg (-1) (Or.inr (Or.inr (Or.inr ⟨w, rfl⟩))) (by omega)
/-- the matrix holds the least of each -/
def MH (v : Nat → Nat → Int) (T : Nat → Nat → Int → Prop) : Prop := (∀ a b, a < 60 → b < 60 → v 74 (60 * a + b) = 1000000 ∨ T a b (v 74 (60 * a + b))) ∧ (∀ a b k, T a b k → v 74 (60 * a + b) ≤ k) ∧ ∀ a b k, T a b k → a < 60 ∧ b < 60 ∧ 1 ≤ k ∧ k ≤ 99
theorem MH_cg {v w : Nat → Nat → Int} {T : Nat → Nat → Int → Prop} (hc : w 74 = v 74) (h : MH v T) : MH w T := by
  unfold MH
  rw [hc]
  exact h
theorem MH_if {T T' : Nat → Nat → Int → Prop} (hT : ∀ a b k, T a b k ↔ T' a b k) (h : MH v T) : MH v T' := by
  have e : T = T' := by
    funext a b k
    exact propext (hT a b k)
  rw [← e]
  exact h
theorem m_leads {T : Nat → Nat → Int → Prop} (h : MH v T) {a b : Nat} (ha : a < 60) (hb : b < 60) {k : Int} (hk : 1 ≤ k ∧ k ≤ 99) : ∃ v', qE L xs (d + 1) nX12_leads [(2, 63), (0, (a : Int)), (0, (b : Int)), (0, k)] (qS v) = some (none, qS v') ∧ (∀ c, c ≠ 74 → v' c = v c) ∧ MH v' (fun a' b' k' => T a' b' k' ∨ (a' = a ∧ b' = b ∧ k' = k)) := by
  obtain ⟨h1, h2, h3⟩ := h
  refine ⟨pm_up v 74 (60 * a + b) (if k < v 74 (60 * a + b) then k else v 74 (60 * a + b)), ?_, fun c hc => up_cell hc, fun a' b' ha' hb' => ?_, fun a' b' k' hk' => ?_, fun a' b' k' hk' => ?_⟩
  · have e : w32 (w32 (60 * (a : Int)) + (b : Int)) = ((60 * a + b : Nat) : Int) := by
      rw [w32_id (z := 60 * (a : Int)) (by omega) (by omega), w32_id (by omega) (by omega)]
      omega
    rw [e_X12_leads, b_X12_leads_0, e, if_pos (by omega), Int.toNat_natCast, b_X12_leads_22]
    by_cases hl : k < v 74 (60 * a + b)
    · rw [if_pos hl, if_pos hl, b_X12_leads_25, b_X12_leads_36, if_pos (by omega), Int.toNat_natCast, b_X12_leads_37]
    · rw [if_neg hl, if_neg hl, b_X12_leads_29, if_pos (by omega), Int.toNat_natCast, b_X12_leads_36, if_pos (by omega), Int.toNat_natCast, b_X12_leads_37]
  · by_cases hab : a' = a ∧ b' = b
    · obtain ⟨rfl, rfl⟩ := hab
      rw [up_eq]
      by_cases hl : k < v 74 (60 * a' + b')
      · rw [if_pos hl]
        exact Or.inr (Or.inr ⟨rfl, rfl, rfl⟩)
      · rw [if_neg hl]
        rcases h1 a' b' ha' hb' with w | w
        · exact Or.inl w
        · exact Or.inr (Or.inl w)
    · rw [up_ne (by omega)]
      rcases h1 a' b' ha' hb' with w | w
      · exact Or.inl w
      · exact Or.inr (Or.inl w)
  · by_cases hab : a' = a ∧ b' = b
    · obtain ⟨rfl, rfl⟩ := hab
      rw [up_eq]
      rcases hk' with w | ⟨-, -, w⟩
      · have := h2 a' b' k' w
        split <;> omega
      · split <;> omega
    · rcases hk' with w | ⟨w1, w2, -⟩
      · have := h3 a' b' k' w
        rw [up_ne (by omega)]
        exact h2 a' b' k' w
      · exact absurd ⟨w1, w2⟩ hab
  · rcases hk' with w | ⟨rfl, rfl, rfl⟩
    · exact h3 a' b' k' w
    · exact ⟨ha, hb, hk⟩
theorem m_through {T : Nat → Nat → Int → Prop} (h : MH v T) {y : Nat} (hy : y < 30) {k : Int} (hk : 1 ≤ k ∧ k ≤ 99) : ∃ v', qE L xs (d + 2) nX12_through [(2, 63), (0, (y : Int)), (0, k)] (qS v) = some (none, qS v') ∧ (∀ c, c ≠ 74 → v' c = v c) ∧ MH v' (fun a' b' k' => T a' b' k' ∨ (thr y a' b' ∧ k' = k)) := by
  obtain ⟨v1, e1, e2, e3⟩ := m_leads (L := L) (xs := xs) (d := d) h (a := 2 * y) (b := 2 * y + 1) (by omega) (by omega) hk
  obtain ⟨v2, e4, e5, e6⟩ := m_leads (L := L) (xs := xs) (d := d) e3 (a := 2 * y + 1) (b := 2 * y) (by omega) (by omega) hk
  refine ⟨v2, ?_, fun c hc => (e5 c hc).trans (e2 c hc), MH_if (fun a' b' k' => ?_) e6⟩
  · rw [e_X12_through, b_X12_through_0, w32_id (z := 2 * (y : Int)) (by omega) (by omega), w32_id (by omega) (by omega), show 2 * (y : Int) + 1 = ((2 * y + 1 : Nat) : Int) by omega, show 2 * (y : Int) = ((2 * y : Nat) : Int) by omega, e1, qB_some, psh_none, b_X12_through_13, w32_id (z := 2 * (y : Int)) (by omega) (by omega), w32_id (by omega) (by omega), show 2 * (y : Int) + 1 = ((2 * y + 1 : Nat) : Int) by omega, show 2 * (y : Int) = ((2 * y : Nat) : Int) by omega, e4, qB_some, psh_none, b_X12_through_26]
  · unfold thr
    constructor
    · rintro ((g | ⟨g1, g2, g3⟩) | ⟨g1, g2, g3⟩)
      · exact Or.inl g
      · exact Or.inr ⟨Or.inl ⟨g1, g2⟩, g3⟩
      · exact Or.inr ⟨Or.inr ⟨g1, g2⟩, g3⟩
    · rintro (g | ⟨⟨g1, g2⟩ | ⟨g1, g2⟩, g3⟩)
      · exact Or.inl (Or.inl g)
      · exact Or.inl (Or.inr ⟨g1, g2, g3⟩)
      · exact Or.inr ⟨g1, g2, g3⟩
theorem lp_afill : ∀ (n j : Nat) (v : Nat → Nat → Int), j + n = 3600 → (∀ i, i < j → v 74 i = 1000000) → ∃ v', qG L xs d CX12_asksSteps 2 [(2, 63), (0, (j : Int)), (9, 0), (9, 0)] [] (qS v) = qG L xs d CX12_asksSteps 23 [(2, 63), (0, 3600), (9, 0), (9, 0)] [] (qS v') ∧ (∀ c, c ≠ 74 → v' c = v c) ∧ ∀ i, i < 3600 → v' 74 i = 1000000
  | 0, j, v, hj, h => by
    have hjN : j = 3600 := by omega
    subst hjN
    refine ⟨v, ?_, fun _ _ => rfl, h⟩
    rw [b_X12_asksSteps_2, if_neg (by omega)]
    rfl
  | n + 1, j, v, hj, h => by
    obtain ⟨v', e1, e2, e3⟩ := lp_afill n (j + 1) (pm_up v 74 j 1000000) (by omega) (fun i hi => by
      by_cases hij : i = j
      · rw [hij, up_eq]
      · rw [up_ne (by omega)]
        exact h i (by omega))
    refine ⟨v', ?_, fun c hc => (e2 c hc).trans (up_cell hc), e3⟩
    refine Eq.trans ?_ e1
    rw [b_X12_asksSteps_2, if_pos (by omega), b_X12_asksSteps_9, if_pos (by omega), Int.toNat_natCast, b_X12_asksSteps_17, w32_id (by omega) (by omega)]
    rfl
end AK
end
section
/-! THE REFERENCE's matrix of steps: asksSteps() -/
section AL
variable {L : Nat} {xs : Nat → Int} {d : Nat} {v : Nat → Nat → Int}
/-- what the reference's reckoning of a law may change -/
def fK (v w : Nat → Nat → Int) : Prop := (∀ c, c ≠ 63 → c ≠ 73 → w c = v c) ∧ ∀ k, k < 15 ∨ 19 < k → w 63 k = v 63 k
/-- .. its asking of the steps, too -/
def fA (v w : Nat → Nat → Int) : Prop := (∀ c, c ≠ 63 → c ≠ 73 → c ≠ 74 → w c = v c) ∧ ∀ k, k < 15 ∨ 19 < k → w 63 k = v 63 k
/-- .. and its ways -/
def fN (v w : Nat → Nat → Int) : Prop := (∀ c, c < 63 ∨ (63 < c ∧ c < 73) ∨ (76 < c ∧ c ≠ 81) → w c = v c) ∧ ∀ k, k < 15 ∨ 24 < k → w 63 k = v 63 k
theorem fA_r (v : Nat → Nat → Int) : fA v v := ⟨fun _ _ _ _ => rfl, fun _ _ => rfl⟩
theorem fN_r (v : Nat → Nat → Int) : fN v v := ⟨fun _ _ => rfl, fun _ _ => rfl⟩
theorem fA_t {v w u : Nat → Nat → Int} (h1 : fA v w) (h2 : fA w u) : fA v u := ⟨fun c a b e => (h2.1 c a b e).trans (h1.1 c a b e), fun k hk => (h2.2 k hk).trans (h1.2 k hk)⟩
theorem fN_t {v w u : Nat → Nat → Int} (h1 : fN v w) (h2 : fN w u) : fN v u := ⟨fun c a => (h2.1 c a).trans (h1.1 c a), fun k hk => (h2.2 k hk).trans (h1.2 k hk)⟩
theorem fK_A {v w : Nat → Nat → Int} (h : fK v w) : fA v w := ⟨fun c a b _ => h.1 c a b, h.2⟩
theorem fA_N {v w : Nat → Nat → Int} (h : fA v w) : fN v w := ⟨fun c a => h.1 c (by omega) (by omega) (by omega), fun k hk => h.2 k (by omega)⟩
theorem fA_74 {v w : Nat → Nat → Int} (h : ∀ c, c ≠ 74 → w c = v c) : fA v w := ⟨fun c _ _ g => h c g, fun k _ => by rw [h 63 (by decide)]⟩
theorem fN_own {v w : Nat → Nat → Int} (h : ∀ c, c < 74 ∨ 76 < c → w c = v c) : fN v w := ⟨fun c a => h c (by omega), fun k _ => by rw [h 63 (by omega)]⟩
/-- the reference's wall and law are the same -/
def gN (v w : Nat → Nat → Int) : Prop := (∀ c, (63 < c ∧ c < 73) ∨ (76 < c ∧ c ≠ 81) → w c = v c) ∧ ∀ k, k < 15 ∨ 24 < k → w 63 k = v 63 k
theorem gN_r (v : Nat → Nat → Int) : gN v v := ⟨fun _ _ => rfl, fun _ _ => rfl⟩
theorem gN_t {v w u : Nat → Nat → Int} (h1 : gN v w) (h2 : gN w u) : gN v u := ⟨fun c a => (h2.1 c a).trans (h1.1 c a), fun k hk => (h2.2 k hk).trans (h1.2 k hk)⟩
theorem fN_g {v w : Nat → Nat → Int} (h : fN v w) : gN v w := ⟨fun c a => h.1 c (by omega), h.2⟩
theorem fW_gN {v w : Nat → Nat → Int} (h : fW v w) : gN v w := ⟨fun c a => h.1 c (by omega) (by omega) (by omega) (by omega), fun k _ => by rw [h.1 63 (by omega) (by omega) (by omega) (by omega)]⟩
/-- the reference's law tells c y s u minutes -/
def LN (L : Nat) (xs : Nat → Int) (v : Nat → Nat → Int) (c : Nat → Nat → Nat → Int) : Prop := (∀ y s u, 1 ≤ c y s u ∧ c y s u ≤ 99) ∧ ∀ w, gN v w → ∀ (d y s u : Nat), y < 30 → s < 2 → u < 2 → ∃ w', qE L xs (d + 90) nX12_walksFor [(2, 63), (0, (y : Int)), (0, (s : Int)), (0, (u : Int))] (qS w) = some (some (0, c y s u), qS w') ∧ fK w w'
theorem LN_g {v w : Nat → Nat → Int} {c : Nat → Nat → Nat → Int} (h : LN L xs v c) (hw : gN v w) : LN L xs w c := ⟨h.1, fun u hu => h.2 u (gN_t hw hu)⟩
theorem LN_N {v w : Nat → Nat → Int} {c : Nat → Nat → Nat → Int} (h : LN L xs v c) (hw : fN v w) : LN L xs w c := LN_g h (fN_g hw)
/-- the reference's wall is the class's -/
def CW (v : Nat → Nat → Int) : Prop := (v 64 140 = v 11 0 ∧ v 63 6 = v 1 1 ∧ v 63 8 = v 1 2 ∧ v 64 138 = v 10 0 ∧ v 64 139 = v 10 1) ∧ (∀ i : Nat, (i : Int) < v 1 1 → v 68 i = v 15 i ∧ v 64 (90 + i) = v 6 i ∧ v 64 (102 + i) = v 7 i) ∧ ∀ i : Nat, (i : Int) < v 1 2 → v 69 i = v 16 i ∧ v 70 i = v 17 i ∧ v 64 (114 + i) = v 8 i ∧ v 64 (126 + i) = v 9 i
theorem fN_c {v w : Nat → Nat → Int} (h : fN v w) {c : Nat} (hc : c < 63 ∨ (63 < c ∧ c < 73) ∨ (76 < c ∧ c ≠ 81)) : w c = v c := h.1 c hc
theorem CW_N {v w : Nat → Nat → Int} (h : fN v w) : CW w = CW v := by
  unfold CW
  rw [fN_c h (c := 64) (by omega), fN_c h (c := 68) (by omega), fN_c h (c := 69) (by omega), fN_c h (c := 70) (by omega), fN_c h (c := 1) (by omega), fN_c h (c := 6) (by omega), fN_c h (c := 7) (by omega), fN_c h (c := 8) (by omega), fN_c h (c := 9) (by omega), fN_c h (c := 10) (by omega), fN_c h (c := 11) (by omega), fN_c h (c := 15) (by omega), fN_c h (c := 16) (by omega), fN_c h (c := 17) (by omega), h.2 6 (by omega), h.2 8 (by omega)]
theorem WW_N {v w : Nat → Nat → Int} (h : fN v w) : WW w = WW v := by
  unfold WW
  rw [fN_c h (c := 11) (by omega), fN_c h (c := 1) (by omega), fN_c h (c := 7) (by omega), fN_c h (c := 9) (by omega), fN_c h (c := 10) (by omega)]
theorem sHo_N {v w : Nat → Nat → Int} (h : fN v w) : sHo w = sHo v := by
  funext i a b k
  unfold sHo
  rw [fN_c h (c := 6) (by omega), fN_c h (c := 15) (by omega), fN_c h (c := 11) (by omega), fN_c h (c := 7) (by omega)]
theorem sLa_N {v w : Nat → Nat → Int} (h : fN v w) : sLa w = sLa v := by
  funext i a b k
  unfold sLa
  rw [fN_c h (c := 8) (by omega), fN_c h (c := 16) (by omega), fN_c h (c := 17) (by omega), fN_c h (c := 11) (by omega), fN_c h (c := 9) (by omega)]
theorem SG_N {v w : Nat → Nat → Int} (h : fN v w) : SG w = SG v := by
  funext c al sh sl a b k
  unfold SG sRo
  rw [sHo_N h, sLa_N h, fN_c h (c := 11) (by omega), fN_c h (c := 10) (by omega), fN_c h (c := 1) (by omega)]
/-- the steps along, from the places below j -/
def aT (Y : Int) (c : Nat → Nat → Nat → Int) (j a b : Nat) (k : Int) : Prop := a < j ∧ (sUp Y c a b k ∨ sDn Y c a b k)
theorem lp_side {c : Nat → Nat → Nat → Int} {Y y s : Nat} (hY : Y ≤ 30) (hy : y < Y) (hs : s < 2) (v : Nat → Nat → Int) (hN : LN L xs v c) (h : MH v (aT (Y : Int) c (2 * y + s))) : ∃ v', qG L xs (d + 91) CX12_asksSteps 42 [(2, 63), (0, (Y : Int)), (0, (y : Int)), (0, (s : Int))] [] (qS v) = qG L xs (d + 91) CX12_asksSteps 99 [(2, 63), (0, (Y : Int)), (0, (y : Int)), (0, (s : Int))] [] (qS v') ∧ fA v v' ∧ MH v' (aT (Y : Int) c (2 * y + s + 1)) := by
  have c1 : (2 * y + s) / 2 = y := by omega
  have c2 : (2 * y + s) % 2 = s := by omega
  have A : ∃ v1, qG L xs (d + 91) CX12_asksSteps 42 [(2, 63), (0, (Y : Int)), (0, (y : Int)), (0, (s : Int))] [] (qS v) = qG L xs (d + 91) CX12_asksSteps 72 [(2, 63), (0, (Y : Int)), (0, (y : Int)), (0, (s : Int))] [] (qS v1) ∧ fA v v1 ∧ MH v1 (fun a b k => aT (Y : Int) c (2 * y + s) a b k ∨ (a = 2 * y + s ∧ sUp (Y : Int) c a b k)) := by
    by_cases g : y + 1 < Y
    · obtain ⟨w1, e1, e2⟩ := hN.2 v (gN_r v) (d + 1) y s 1 (by omega) hs (by omega)
      have hk := hN.1 y s 1
      obtain ⟨w2, e3, e4, e5⟩ := m_leads (L := L) (xs := xs) (d := d + 90) (MH_cg (e2.1 74 (by decide) (by decide)) h) (a := 2 * y + s) (b := 2 * y + 2 + s) (by omega) (by omega) hk
      refine ⟨w2, ?_, fA_t (fK_A e2) (fA_74 e4), MH_if (fun a b k => ?_) e5⟩
      · have e1' : qE L xs (d + 91) nX12_walksFor [(2, 63), (0, (y : Int)), (0, (s : Int)), (0, 1)] (qS v) = _ := e1
        rw [b_X12_asksSteps_42, w32_id (by omega) (by omega), if_pos (by omega), b_X12_asksSteps_49, e1', qB_some, psh_some, w32_id (z := 2 * (y : Int)) (by omega) (by omega), w32_id (z := 2 * (y : Int) + 2) (by omega) (by omega), w32_id (z := 2 * (y : Int) + 2 + (s : Int)) (by omega) (by omega), w32_id (z := 2 * (y : Int) + (s : Int)) (by omega) (by omega), b_X12_asksSteps_69, show 2 * (y : Int) + 2 + (s : Int) = ((2 * y + 2 + s : Nat) : Int) by omega, show 2 * (y : Int) + (s : Int) = ((2 * y + s : Nat) : Int) by omega, e3, qB_some, psh_none]
      · constructor
        · rintro (w | ⟨rfl, rfl, rfl⟩)
          · exact Or.inl w
          · exact Or.inr ⟨rfl, by omega, by omega, by rw [c1, c2]⟩
        · rintro (w | ⟨rfl, w1, w2, w3⟩)
          · exact Or.inl w
          · rw [c1, c2] at w3
            exact Or.inr ⟨rfl, by omega, w3⟩
    · refine ⟨v, ?_, fA_r v, MH_if (fun a b k => ?_) h⟩
      · rw [b_X12_asksSteps_42, w32_id (by omega) (by omega), if_neg (by omega)]
      · constructor
        · exact Or.inl
        · rintro (w | ⟨rfl, w1, w2, w3⟩)
          · exact w
          · omega
  obtain ⟨v1, e1, e2, e3⟩ := A
  have hN1 := LN_N hN (fA_N e2)
  by_cases g : 0 < y
  · obtain ⟨w1, e4, e5⟩ := hN1.2 v1 (gN_r v1) (d + 1) y s 0 (by omega) hs (by omega)
    have hk := hN1.1 y s 0
    obtain ⟨w2, e6, e7, e8⟩ := m_leads (L := L) (xs := xs) (d := d + 90) (MH_cg (e5.1 74 (by decide) (by decide)) e3) (a := 2 * y + s) (b := 2 * y - 2 + s) (by omega) (by omega) hk
    refine ⟨w2, ?_, fA_t e2 (fA_t (fK_A e5) (fA_74 e7)), MH_if (fun a b k => ?_) e8⟩
    · have e4' : qE L xs (d + 91) nX12_walksFor [(2, 63), (0, (y : Int)), (0, (s : Int)), (0, 0)] (qS v1) = _ := e4
      rw [e1, b_X12_asksSteps_72, if_pos (by omega), b_X12_asksSteps_76, e4', qB_some, psh_some, w32_id (z := 2 * (y : Int)) (by omega) (by omega), w32_id (z := 2 * (y : Int) - 2) (by omega) (by omega), w32_id (z := 2 * (y : Int) - 2 + (s : Int)) (by omega) (by omega), w32_id (z := 2 * (y : Int) + (s : Int)) (by omega) (by omega), b_X12_asksSteps_96, show 2 * (y : Int) - 2 + (s : Int) = ((2 * y - 2 + s : Nat) : Int) by omega, show 2 * (y : Int) + (s : Int) = ((2 * y + s : Nat) : Int) by omega, e6, qB_some, psh_none]
    · constructor
      · rintro ((⟨w1, w2⟩ | ⟨rfl, w⟩) | ⟨rfl, rfl, rfl⟩)
        · exact ⟨by omega, w2⟩
        · exact ⟨by omega, Or.inl w⟩
        · exact ⟨by omega, Or.inr ⟨by omega, by omega, by rw [c1, c2]⟩⟩
      · rintro ⟨w1, w2⟩
        by_cases ha : a = 2 * y + s
        · subst ha
          rcases w2 with w | ⟨w3, w4, w5⟩
          · exact Or.inl (Or.inr ⟨rfl, w⟩)
          · rw [c1, c2] at w5
            exact Or.inr ⟨rfl, by omega, w5⟩
        · exact Or.inl (Or.inl ⟨by omega, w2⟩)
  · refine ⟨v1, ?_, e2, MH_if (fun a b k => ?_) e3⟩
    · rw [e1, b_X12_asksSteps_72, if_neg (by omega)]
    · constructor
      · rintro (⟨w1, w2⟩ | ⟨rfl, w⟩)
        · exact ⟨by omega, w2⟩
        · exact ⟨by omega, Or.inl w⟩
      · rintro ⟨w1, w2⟩
        by_cases ha : a = 2 * y + s
        · subst ha
          rcases w2 with w | ⟨w3, w4, w5⟩
          · exact Or.inr ⟨rfl, w⟩
          · omega
        · exact Or.inl ⟨by omega, w2⟩
theorem lp_along {c : Nat → Nat → Nat → Int} {Y : Nat} (hY : Y ≤ 30) : ∀ (n y : Nat) (v : Nat → Nat → Int) (u3 : pm_V), y + n = Y → LN L xs v c → MH v (aT (Y : Int) c (2 * y)) → ∃ v' w3, qG L xs (d + 91) CX12_asksSteps 30 [(2, 63), (0, (Y : Int)), (0, (y : Int)), u3] [] (qS v) = qG L xs (d + 91) CX12_asksSteps 111 [(2, 63), (0, (Y : Int)), (0, (Y : Int)), w3] [] (qS v') ∧ fA v v' ∧ MH v' (aT (Y : Int) c (2 * Y))
  | 0, y, v, u3, hy, hN, h => by
    have hyY : y = Y := by omega
    subst hyY
    refine ⟨v, u3, ?_, fA_r v, h⟩
    rw [b_X12_asksSteps_30, if_neg (by omega)]
  | n + 1, y, v, u3, hy, hN, h => by
    obtain ⟨v1, e1, e2, e3⟩ := lp_side (L := L) (xs := xs) (d := d) (s := 0) hY (show y < Y by omega) (by omega) v hN h
    obtain ⟨v2, e4, e5, e6⟩ := lp_side (L := L) (xs := xs) (d := d) (s := 1) hY (show y < Y by omega) (by omega) v1 (LN_N hN (fA_N e2)) e3
    have f2 := fA_t e2 e5
    obtain ⟨v3, w3, e7, e8, e9⟩ := lp_along hY n (y + 1) v2 (0, 2) (by omega) (LN_N hN (fA_N f2)) e6
    refine ⟨v3, w3, ?_, fA_t f2 e8, e9⟩
    refine Eq.trans ?_ e7
    rw [b_X12_asksSteps_30, if_pos (by omega), b_X12_asksSteps_35, b_X12_asksSteps_37, if_pos (by omega)]
    refine Eq.trans e1 ?_
    rw [b_X12_asksSteps_99, w32_id (by omega) (by omega), b_X12_asksSteps_37, if_pos (by omega)]
    refine Eq.trans e4 ?_
    rw [b_X12_asksSteps_99, w32_id (by omega) (by omega), b_X12_asksSteps_37, if_neg (by omega), b_X12_asksSteps_105, w32_id (by omega) (by omega)]
    rfl
theorem lp_ahole {R : Nat → Nat → Nat → Int → Prop} {T0 : Nat → Nat → Int → Prop} {H : Nat} {sh : Int} (x1 : Int) : ∀ (n h : Nat) (v : Nat → Nat → Int) (u3 : pm_V), h + n = H → v 1 1 = (H : Int) → WW v → CW v → v 63 23 = sh → sHo v = R → MH v (fun a b k => T0 a b k ∨ ∃ j : Nat, j < h ∧ (j : Int) ≠ sh ∧ R j a b k) → ∃ v', qG L xs (d + 4) CX12_asksSteps 113 [(2, 63), (0, x1), (0, (h : Int)), u3] [] (qS v) = qG L xs (d + 4) CX12_asksSteps 181 [(2, 63), (0, x1), (0, (H : Int)), u3] [] (qS v') ∧ (∀ c, c ≠ 74 → v' c = v c) ∧ MH v' (fun a b k => T0 a b k ∨ ∃ j : Nat, j < H ∧ (j : Int) ≠ sh ∧ R j a b k)
  | 0, h, v, u3, hh, hH, hW, hC, hsh, hR, hM => by
    have hhH : h = H := by omega
    subst hhH
    refine ⟨v, ?_, fun _ _ => rfl, hM⟩
    rw [b_X12_asksSteps_113, if_neg (by rw [hC.1.2.1]; omega)]
  | n + 1, h, v, u3, hh, hH, hW, hC, hsh, hR, hM => by
    have hW0 := hW
    have hC0 := hC
    obtain ⟨q1, q2, q3, q4, q5, q6⟩ := hW
    obtain ⟨⟨k1, k2, k3, k4, k5⟩, k6, k7⟩ := hC
    obtain ⟨j1, j2, j3⟩ := k6 h (by omega)
    have r4 := (q4 h (by omega)).1
    have a0 : qG L xs (d + 4) CX12_asksSteps 113 [(2, 63), (0, x1), (0, (h : Int)), u3] [] (qS v) = (if (0 ≤ v 15 h ∧ v 15 h < v 11 0) ∧ v 6 h = 1 ∧ (h : Int) ≠ sh then qG L xs (d + 4) CX12_asksSteps 156 [(2, 63), (0, x1), (0, (h : Int)), u3] [] (qS v) else qG L xs (d + 4) CX12_asksSteps 175 [(2, 63), (0, x1), (0, (h : Int)), u3] [] (qS v)) := by
      rw [b_X12_asksSteps_113, if_pos (by omega), b_X12_asksSteps_121, if_pos (by omega), Int.toNat_natCast, j1, b_X12_asksSteps_128, c_isYard (by omega) (by omega), qB_some, psh_some, b_X12_asksSteps_132, zb_0, k1]
      by_cases g1 : 0 ≤ v 15 h ∧ v 15 h < v 11 0
      · rw [if_pos g1, b_X12_asksSteps_135, w32_id (by omega) (by omega), if_pos (by omega), show (90 + (h : Int)).toNat = 90 + h by omega, j2, b_X12_asksSteps_144]
        by_cases g2 : v 6 h = 1
        · rw [if_pos g2, b_X12_asksSteps_148, hsh]
          by_cases g3 : (h : Int) = sh
          · rw [if_pos g3, if_neg (fun q => q.2.2 g3)]
          · rw [if_neg g3, if_pos ⟨g1, g2, g3⟩]
        · rw [if_neg g2, if_neg (fun q => g2 q.2.1)]
      · rw [if_neg g1, if_neg (fun q => g1 q.1)]
    by_cases g : (0 ≤ v 15 h ∧ v 15 h < v 11 0) ∧ v 6 h = 1 ∧ (h : Int) ≠ sh
    · obtain ⟨v1, e1, e2, e3⟩ := m_through (L := L) (xs := xs) (d := d + 2) hM (y := (v 15 h).toNat) (by omega) (k := v 7 h) (by omega)
      have f1 := fA_N (fA_74 e2)
      obtain ⟨v2, e4, e5, e6⟩ := lp_ahole (H := H) (R := R) (sh := sh) x1 n (h + 1) v1 u3 (by omega) (by rw [e2 1 (by decide)]; exact hH) (by rw [WW_N f1]; exact hW0) (by rw [CW_N f1]; exact hC0) (by rw [e2 63 (by decide)]; exact hsh) (by rw [sHo_N f1]; exact hR) (MH_if (fun a b k => by
        have hRh : ∀ a b k, R h a b k ↔ (thr (v 15 h).toNat a b ∧ k = v 7 h) := fun a b k => by
          rw [← hR]
          exact ⟨fun w => w.2, fun w => ⟨⟨g.2.1, g.1⟩, w⟩⟩
        constructor
        · rintro ((g1 | ⟨j, g1, g2, g3⟩) | g1)
          · exact Or.inl g1
          · exact Or.inr ⟨j, by omega, g2, g3⟩
          · exact Or.inr ⟨h, by omega, g.2.2, (hRh a b k).mpr g1⟩
        · rintro (g1 | ⟨j, g1, g2, g3⟩)
          · exact Or.inl (Or.inl g1)
          · by_cases hj : j = h
            · subst hj
              exact Or.inr ((hRh a b k).mp g3)
            · exact Or.inl (Or.inr ⟨j, by omega, g2, g3⟩)) e3)
      refine ⟨v2, ?_, fun c hc => (e5 c hc).trans (e2 c hc), e6⟩
      refine Eq.trans ?_ e4
      have e1' : qE L xs (d + 4) nX12_through [(2, 63), (0, v 15 h), (0, v 7 h)] (qS v) = some (none, qS v1) := by
        rw [show ((v 15 h).toNat : Int) = v 15 h by omega] at e1
        exact e1
      rw [a0, if_pos g, b_X12_asksSteps_156, if_pos (by omega), Int.toNat_natCast, j1, b_X12_asksSteps_163, w32_id (by omega) (by omega), if_pos (by omega), show (102 + (h : Int)).toNat = 102 + h by omega, j3, b_X12_asksSteps_172, e1', qB_some, psh_none, b_X12_asksSteps_175, w32_id (by omega) (by omega)]
      rfl
    · obtain ⟨v2, e4, e5, e6⟩ := lp_ahole (H := H) (R := R) (sh := sh) x1 n (h + 1) v u3 (by omega) hH hW0 hC0 hsh hR (MH_if (fun a b k => by
        constructor
        · rintro (g1 | ⟨j, g1, g2, g3⟩)
          · exact Or.inl g1
          · exact Or.inr ⟨j, by omega, g2, g3⟩
        · rintro (g1 | ⟨j, g1, g2, g3⟩)
          · exact Or.inl g1
          · by_cases hj : j = h
            · subst hj
              rw [← hR] at g3
              exact absurd ⟨g3.1.2, g3.1.1, g2⟩ g
            · exact Or.inr ⟨j, by omega, g2, g3⟩) hM)
      refine ⟨v2, ?_, e5, e6⟩
      refine Eq.trans ?_ e4
      rw [a0, if_neg g, b_X12_asksSteps_175, w32_id (by omega) (by omega)]
      rfl
end AL
end
section
/-! THE REFERENCE's matrix of steps: the lanes; all of it -/
section AM
variable {L : Nat} {xs : Nat → Int} {d : Nat} {v : Nat → Nat → Int}
theorem lp_alane {R : Nat → Nat → Nat → Int → Prop} {T0 : Nat → Nat → Int → Prop} {H : Nat} {sl : Int} (x1 : Int) : ∀ (n h : Nat) (v : Nat → Nat → Int) (u3 : pm_V), h + n = H → v 1 2 = (H : Int) → WW v → CW v → v 63 24 = sl → sLa v = R → MH v (fun a b k => T0 a b k ∨ ∃ j : Nat, j < h ∧ (j : Int) ≠ sl ∧ R j a b k) → ∃ v', qG L xs (d + 4) CX12_asksSteps 199 [(2, 63), (0, x1), (0, (h : Int)), u3] [] (qS v) = qG L xs (d + 4) CX12_asksSteps 312 [(2, 63), (0, x1), (0, (H : Int)), u3] [] (qS v') ∧ (∀ c, c ≠ 74 → v' c = v c) ∧ MH v' (fun a b k => T0 a b k ∨ ∃ j : Nat, j < H ∧ (j : Int) ≠ sl ∧ R j a b k)
  | 0, h, v, u3, hh, hH, hW, hC, hsl, hR, hM => by
    have hhH : h = H := by omega
    subst hhH
    refine ⟨v, ?_, fun _ _ => rfl, hM⟩
    rw [b_X12_asksSteps_199, if_neg (by rw [hC.1.2.2.1]; omega)]
  | n + 1, h, v, u3, hh, hH, hW, hC, hsl, hR, hM => by
    have hW0 := hW
    have hC0 := hC
    obtain ⟨q1, q2, q3, q4, q5, q6⟩ := hW
    obtain ⟨⟨k1, k2, k3, k4, k5⟩, k6, k7⟩ := hC
    obtain ⟨j1, j2, j3, j4⟩ := k7 h (by omega)
    have r4 := (q4 h (by omega)).2
    have a0 : qG L xs (d + 4) CX12_asksSteps 199 [(2, 63), (0, x1), (0, (h : Int)), u3] [] (qS v) = (if ((0 ≤ v 16 h ∧ v 16 h < 2 * v 11 0) ∧ 0 ≤ v 17 h ∧ v 17 h < 2 * v 11 0) ∧ v 8 h = 1 ∧ (h : Int) ≠ sl then qG L xs (d + 4) CX12_asksSteps 256 [(2, 63), (0, x1), (0, (h : Int)), u3] [] (qS v) else qG L xs (d + 4) CX12_asksSteps 306 [(2, 63), (0, x1), (0, (h : Int)), u3] [] (qS v)) := by
      rw [b_X12_asksSteps_199, if_pos (by omega), b_X12_asksSteps_207, if_pos (by omega), Int.toNat_natCast, j1, b_X12_asksSteps_214, c_isPlace (by omega) (by omega), qB_some, psh_some, b_X12_asksSteps_218, zb_0, k1]
      by_cases g1 : 0 ≤ v 16 h ∧ v 16 h < 2 * v 11 0
      · rw [if_pos g1, b_X12_asksSteps_221, if_pos (by omega), Int.toNat_natCast, j2, b_X12_asksSteps_228, c_isPlace (by omega) (by omega), qB_some, psh_some, b_X12_asksSteps_232, zb_0, k1]
        by_cases g0 : 0 ≤ v 17 h ∧ v 17 h < 2 * v 11 0
        · rw [if_pos g0, b_X12_asksSteps_235, w32_id (by omega) (by omega), if_pos (by omega), show (114 + (h : Int)).toNat = 114 + h by omega, j3, b_X12_asksSteps_244]
          by_cases g2 : v 8 h = 1
          · rw [if_pos g2, b_X12_asksSteps_248, hsl]
            by_cases g3 : (h : Int) = sl
            · rw [if_pos g3, if_neg (fun q => q.2.2 g3)]
            · rw [if_neg g3, if_pos ⟨⟨g1, g0⟩, g2, g3⟩]
          · rw [if_neg g2, if_neg (fun q => g2 q.2.1)]
        · rw [if_neg g0, if_neg (fun q => g0 q.1.2)]
      · rw [if_neg g1, if_neg (fun q => g1 q.1.1)]
    by_cases g : ((0 ≤ v 16 h ∧ v 16 h < 2 * v 11 0) ∧ 0 ≤ v 17 h ∧ v 17 h < 2 * v 11 0) ∧ v 8 h = 1 ∧ (h : Int) ≠ sl
    · obtain ⟨v0, e1, e2, e3⟩ := m_leads (L := L) (xs := xs) (d := d + 3) hM (a := (v 16 h).toNat) (b := (v 17 h).toNat) (by omega) (by omega) (k := v 9 h) (by omega)
      obtain ⟨v1, e7, e8, e9⟩ := m_leads (L := L) (xs := xs) (d := d + 3) e3 (a := (v 17 h).toNat) (b := (v 16 h).toNat) (by omega) (by omega) (k := v 9 h) (by omega)
      have e28 : ∀ c, c ≠ 74 → v1 c = v c := fun c hc => (e8 c hc).trans (e2 c hc)
      have f1 := fA_N (fA_74 e28)
      obtain ⟨v2, e4, e5, e6⟩ := lp_alane (H := H) (R := R) (sl := sl) x1 n (h + 1) v1 u3 (by omega) (by rw [e28 1 (by decide)]; exact hH) (by rw [WW_N f1]; exact hW0) (by rw [CW_N f1]; exact hC0) (by rw [e28 63 (by decide)]; exact hsl) (by rw [sLa_N f1]; exact hR) (MH_if (fun a b k => by
        have hRh : ∀ a b k, R h a b k ↔ (((a = (v 16 h).toNat ∧ b = (v 17 h).toNat) ∨ (a = (v 17 h).toNat ∧ b = (v 16 h).toNat)) ∧ k = v 9 h) := fun a b k => by
          rw [← hR]
          exact ⟨fun w => w.2, fun w => ⟨⟨g.2.1, g.1⟩, w⟩⟩
        constructor
        · rintro (((g1 | ⟨j, g1, g2, g3⟩) | ⟨g1, g2, g3⟩) | ⟨g1, g2, g3⟩)
          · exact Or.inl g1
          · exact Or.inr ⟨j, by omega, g2, g3⟩
          · exact Or.inr ⟨h, by omega, g.2.2, (hRh a b k).mpr ⟨Or.inl ⟨g1, g2⟩, g3⟩⟩
          · exact Or.inr ⟨h, by omega, g.2.2, (hRh a b k).mpr ⟨Or.inr ⟨g1, g2⟩, g3⟩⟩
        · rintro (g1 | ⟨j, g1, g2, g3⟩)
          · exact Or.inl (Or.inl (Or.inl g1))
          · by_cases hj : j = h
            · subst hj
              rcases (hRh a b k).mp g3 with ⟨⟨w1, w2⟩ | ⟨w1, w2⟩, w3⟩
              · exact Or.inl (Or.inr ⟨w1, w2, w3⟩)
              · exact Or.inr ⟨w1, w2, w3⟩
            · exact Or.inl (Or.inl (Or.inr ⟨j, by omega, g2, g3⟩))) e9)
      refine ⟨v2, ?_, fun c hc => (e5 c hc).trans (e28 c hc), e6⟩
      refine Eq.trans ?_ e4
      have t1 : ((v 16 h).toNat : Int) = v 16 h := by omega
      have t2 : ((v 17 h).toNat : Int) = v 17 h := by omega
      rw [t1, t2] at e1 e7
      have u1 := e2 69 (by decide)
      have u2 := e2 70 (by decide)
      have u3 := e2 64 (by decide)
      rw [a0, if_pos g, b_X12_asksSteps_256, if_pos (by omega), Int.toNat_natCast, j1, b_X12_asksSteps_263, if_pos (by omega), Int.toNat_natCast, j2, b_X12_asksSteps_269, w32_id (by omega) (by omega), if_pos (by omega), show (126 + (h : Int)).toNat = 126 + h by omega, j4, b_X12_asksSteps_278, e1, qB_some, psh_none, b_X12_asksSteps_281, if_pos (by omega), Int.toNat_natCast, u2, j2, b_X12_asksSteps_288, if_pos (by omega), Int.toNat_natCast, u1, j1, b_X12_asksSteps_294, w32_id (by omega) (by omega), if_pos (by omega), show (126 + (h : Int)).toNat = 126 + h by omega, u3, j4, b_X12_asksSteps_303, e7, qB_some, psh_none, b_X12_asksSteps_306, w32_id (by omega) (by omega)]
      rfl
    · obtain ⟨v2, e4, e5, e6⟩ := lp_alane (H := H) (R := R) (sl := sl) x1 n (h + 1) v u3 (by omega) hH hW0 hC0 hsl hR (MH_if (fun a b k => by
        constructor
        · rintro (g1 | ⟨j, g1, g2, g3⟩)
          · exact Or.inl g1
          · exact Or.inr ⟨j, by omega, g2, g3⟩
        · rintro (g1 | ⟨j, g1, g2, g3⟩)
          · exact Or.inl g1
          · by_cases hj : j = h
            · subst hj
              rw [← hR] at g3
              exact absurd ⟨g3.1.2, g3.1.1, g2⟩ g
            · exact Or.inr ⟨j, by omega, g2, g3⟩) hM)
      refine ⟨v2, ?_, e5, e6⟩
      refine Eq.trans ?_ e4
      rw [a0, if_neg g, b_X12_asksSteps_306, w32_id (by omega) (by omega)]
      rfl
/-- all steps that are there; a hole more, a hole shut, a lane shut as told -/
theorem m_asks {c : Nat → Nat → Nat → Int} {al sh sl : Int} (hW : WW v) (hC : CW v) (hN : LN L xs v c) (hal : v 63 22 = al) (hsh : v 63 23 = sh) (hsl : v 63 24 = sl) (ha2 : al < v 11 0) : ∃ v', qE L xs (d + 92) nX12_asksSteps [(2, 63)] (qS v) = some (none, qS v') ∧ fA v v' ∧ MH v' (SG v c al sh sl) := by
  obtain ⟨q1, q2, q3, q4, q5, q6⟩ := hW
  have hW0 : WW v := ⟨q1, q2, q3, q4, q5, q6⟩
  obtain ⟨Y, hY⟩ : ∃ Y : Nat, v 11 0 = (Y : Int) := ⟨(v 11 0).toNat, by omega⟩
  obtain ⟨H, hH⟩ : ∃ H : Nat, v 1 1 = (H : Int) := ⟨(v 1 1).toNat, by omega⟩
  obtain ⟨N, hNN⟩ : ∃ N : Nat, v 1 2 = (N : Int) := ⟨(v 1 2).toNat, by omega⟩
  obtain ⟨v1, e1, e2, e3⟩ := lp_afill (L := L) (xs := xs) (d := d + 91) 3600 0 v (by omega) (fun i hi => absurd hi (by omega))
  have f1 : fA v v1 := fA_74 e2
  obtain ⟨v2, w3, e4, e5, e6⟩ := lp_along (L := L) (xs := xs) (d := d) (c := c) (Y := Y) (by omega) Y 0 v1 (9, 0) (by omega) (LN_N hN (fA_N f1)) ⟨fun a b ha hb => Or.inl (e3 (60 * a + b) (by omega)), fun a b k hk => absurd hk.1 (by omega), fun a b k hk => absurd hk.1 (by omega)⟩
  have f2 : fA v v2 := fA_t f1 e5
  have n2 := fA_N f2
  obtain ⟨v3, e7, e8, e9⟩ := lp_ahole (L := L) (xs := xs) (d := d + 87) (R := sHo v) (H := H) (sh := sh) (Y : Int) H 0 v2 w3 (by omega) (by rw [fN_c n2 (c := 1) (by omega)]; exact hH) (by rw [WW_N n2]; exact hW0) (by rw [CW_N n2]; exact hC) (by rw [f2.2 23 (by omega)]; exact hsh) (sHo_N n2) (MH_if (fun a b k => ⟨Or.inl, fun w => by
    rcases w with w | ⟨j, hj, -⟩
    · exact w
    · exact absurd hj (by omega)⟩) e6)
  have f3 : fA v v3 := fA_t f2 (fA_74 e8)
  have n3 := fA_N f3
  have A : ∃ v4, qG L xs (d + 91) CX12_asksSteps 181 [(2, 63), (0, (Y : Int)), (0, (H : Int)), w3] [] (qS v3) = qG L xs (d + 91) CX12_asksSteps 197 [(2, 63), (0, (Y : Int)), (0, (H : Int)), w3] [] (qS v4) ∧ fA v v4 ∧ MH v4 (fun a b k => (aT (Y : Int) c (2 * Y) a b k ∨ ∃ j : Nat, j < H ∧ (j : Int) ≠ sh ∧ sHo v j a b k) ∨ (0 ≤ al ∧ thr al.toNat a b ∧ k = 1)) := by
    have hal3 : v3 63 22 = al := by rw [f3.2 22 (by omega)]; exact hal
    by_cases g : al < 0
    · refine ⟨v3, ?_, f3, MH_if (fun a b k => ⟨Or.inl, fun w => ?_⟩) e9⟩
      · rw [b_X12_asksSteps_181, hal3, if_pos g]
      · rcases w with w | ⟨w, -⟩
        · exact w
        · omega
    · obtain ⟨v4, e10, e11, e12⟩ := m_through (L := L) (xs := xs) (d := d + 89) e9 (y := al.toNat) (by omega) (k := 1) (by omega)
      refine ⟨v4, ?_, fA_t f3 (fA_74 e11), MH_if (fun a b k => ?_) e12⟩
      · have t : (al.toNat : Int) = al := by omega
        rw [t] at e10
        rw [b_X12_asksSteps_181, hal3, if_neg g, b_X12_asksSteps_188, hal3, e10, qB_some, psh_none]
      · constructor
        · rintro (w | w)
          · exact Or.inl w
          · exact Or.inr ⟨by omega, w⟩
        · rintro (w | ⟨-, w⟩)
          · exact Or.inl w
          · exact Or.inr w
  obtain ⟨v4, e10, f4, e12⟩ := A
  have n4 := fA_N f4
  obtain ⟨v5, e13, e14, e15⟩ := lp_alane (L := L) (xs := xs) (d := d + 87) (R := sLa v) (H := N) (sl := sl) (Y : Int) N 0 v4 w3 (by omega) (by rw [fN_c n4 (c := 1) (by omega)]; exact hNN) (by rw [WW_N n4]; exact hW0) (by rw [CW_N n4]; exact hC) (by rw [f4.2 24 (by omega)]; exact hsl) (sLa_N n4) (MH_if (fun a b k => ⟨Or.inl, fun w => by
    rcases w with w | ⟨j, hj, -⟩
    · exact w
    · exact absurd hj (by omega)⟩) e12)
  have f5 : fA v v5 := fA_t f4 (fA_74 e14)
  have n5 := fA_N f5
  obtain ⟨⟨k1, k2, k3, k4, k5⟩, -, -⟩ := hC
  have B : ∃ v6, qG L xs (d + 91) CX12_asksSteps 312 [(2, 63), (0, (Y : Int)), (0, (N : Int)), w3] [] (qS v5) = qG L xs (d + 91) CX12_asksSteps 336 [(2, 63), (0, (Y : Int)), (0, (N : Int)), w3] [] (qS v6) ∧ fA v v6 ∧ MH v6 (fun a b k => (((aT (Y : Int) c (2 * Y) a b k ∨ ∃ j : Nat, j < H ∧ (j : Int) ≠ sh ∧ sHo v j a b k) ∨ (0 ≤ al ∧ thr al.toNat a b ∧ k = 1)) ∨ ∃ j : Nat, j < N ∧ (j : Int) ≠ sl ∧ sLa v j a b k) ∨ (0 < v 10 0 ∧ thr 0 a b ∧ k = v 10 0)) := by
    have h1 : v5 64 138 = v 10 0 := by rw [fN_c n5 (c := 64) (by omega)]; exact k4
    by_cases g : 0 < v 10 0
    · obtain ⟨v6, e16, e17, e18⟩ := m_through (L := L) (xs := xs) (d := d + 89) e15 (y := 0) (by omega) (k := v 10 0) (by omega)
      refine ⟨v6, ?_, fA_t f5 (fA_74 e17), MH_if (fun a b k => ?_) e18⟩
      · have e16' : qE L xs (d + 91) nX12_through [(2, 63), (0, 0), (0, v 10 0)] (qS v5) = _ := e16
        rw [b_X12_asksSteps_312, h1, if_pos g, b_X12_asksSteps_323, h1, e16', qB_some, psh_none]
      · constructor
        · rintro (w | w)
          · exact Or.inl w
          · exact Or.inr ⟨g, w⟩
        · rintro (w | ⟨-, w⟩)
          · exact Or.inl w
          · exact Or.inr w
    · refine ⟨v5, ?_, f5, MH_if (fun a b k => ⟨Or.inl, fun w => ?_⟩) e15⟩
      · rw [b_X12_asksSteps_312, h1, if_neg g]
      · rcases w with w | ⟨w, -⟩
        · exact w
        · exact absurd w g
  obtain ⟨v6, e16, f6, e18⟩ := B
  have n6 := fA_N f6
  have D : ∃ v7, qG L xs (d + 91) CX12_asksSteps 336 [(2, 63), (0, (Y : Int)), (0, (N : Int)), w3] [] (qS v6) = qG L xs (d + 91) CX12_asksSteps 362 [(2, 63), (0, (Y : Int)), (0, (N : Int)), w3] [] (qS v7) ∧ fA v v7 ∧ MH v7 (fun a b k => ((((aT (Y : Int) c (2 * Y) a b k ∨ ∃ j : Nat, j < H ∧ (j : Int) ≠ sh ∧ sHo v j a b k) ∨ (0 ≤ al ∧ thr al.toNat a b ∧ k = 1)) ∨ ∃ j : Nat, j < N ∧ (j : Int) ≠ sl ∧ sLa v j a b k) ∨ (0 < v 10 0 ∧ thr 0 a b ∧ k = v 10 0)) ∨ (0 < v 10 1 ∧ thr (v 11 0 - 1).toNat a b ∧ k = v 10 1)) := by
    have h1 : v6 64 139 = v 10 1 := by rw [fN_c n6 (c := 64) (by omega)]; exact k5
    by_cases g : 0 < v 10 1
    · obtain ⟨v7, e19, e20, e21⟩ := m_through (L := L) (xs := xs) (d := d + 89) e18 (y := (v 11 0 - 1).toNat) (by omega) (k := v 10 1) (by omega)
      refine ⟨v7, ?_, fA_t f6 (fA_74 e20), MH_if (fun a b k => ?_) e21⟩
      · have t : ((v 11 0 - 1).toNat : Int) = (Y : Int) - 1 := by omega
        rw [t] at e19
        rw [b_X12_asksSteps_336, h1, if_pos g, b_X12_asksSteps_347, h1, w32_id (by omega) (by omega), e19, qB_some, psh_none]
      · constructor
        · rintro (w | w)
          · exact Or.inl w
          · exact Or.inr ⟨g, w⟩
        · rintro (w | ⟨-, w⟩)
          · exact Or.inl w
          · exact Or.inr w
    · refine ⟨v6, ?_, f6, MH_if (fun a b k => ⟨Or.inl, fun w => ?_⟩) e18⟩
      · rw [b_X12_asksSteps_336, h1, if_neg g]
      · rcases w with w | ⟨w, -⟩
        · exact w
        · exact absurd w g
  obtain ⟨v7, e19, f7, e21⟩ := D
  refine ⟨v7, ?_, f7, MH_if (fun a b k => ?_) e21⟩
  · rw [e_X12_asksSteps, b_X12_asksSteps_0]
    refine Eq.trans e1 ?_
    rw [b_X12_asksSteps_23, c_yardMany, qB_some, psh_some, b_X12_asksSteps_27, fN_c (fA_N f1) (c := 64) (by omega), k1, hY]
    refine Eq.trans e4 ?_
    rw [b_X12_asksSteps_111]
    refine Eq.trans e7 ?_
    refine Eq.trans e10 ?_
    rw [b_X12_asksSteps_197]
    refine Eq.trans e13 ?_
    refine Eq.trans e16 ?_
    refine Eq.trans e19 ?_
    rw [b_X12_asksSteps_362]
  · unfold SG sRo
    rw [hH, hNN, hY]
    constructor
    · rintro (((((⟨-, w⟩ | ⟨j, w1, w2, w3⟩) | w) | ⟨j, w1, w2, w3⟩) | w) | w)
      · exact Or.inl w
      · exact Or.inr (Or.inl ⟨j, by omega, w2, w3⟩)
      · exact Or.inr (Or.inr (Or.inl w))
      · exact Or.inr (Or.inr (Or.inr (Or.inl ⟨j, by omega, w2, w3⟩)))
      · exact Or.inr (Or.inr (Or.inr (Or.inr (Or.inl w))))
      · exact Or.inr (Or.inr (Or.inr (Or.inr (Or.inr w))))
    · rintro (w | ⟨j, w1, w2, w3⟩ | w | ⟨j, w1, w2, w3⟩ | w | w)
      · refine Or.inl (Or.inl (Or.inl (Or.inl (Or.inl ⟨?_, w⟩))))
        rcases w with w | w
        · have := w.1; omega
        · have := w.1; omega
      · exact Or.inl (Or.inl (Or.inl (Or.inl (Or.inr ⟨j, by omega, w2, w3⟩))))
      · exact Or.inl (Or.inl (Or.inl (Or.inr w)))
      · exact Or.inl (Or.inl (Or.inr ⟨j, by omega, w2, w3⟩))
      · exact Or.inl (Or.inr w)
      · exact Or.inr w
end AM
end
section
/-! WALKS: the least, and both ways of telling it -/
section LE
variable {L : Nat} {xs : Nat → Int} {d : Nat} {v : Nat → Nat → Int}
variable {E E' : Nat → Nat → Int → Prop} {P s p : Nat} {I I' x y : Int} {m : Nat → Int}
theorem Wk_mono (hE : ∀ a b k, E a b k → E' a b k) {n : Nat} {w : Int} (h : Wk E n s p w) : Wk E' n s p w := by
  obtain ⟨f, c, h1, h2, h3, h4, h5⟩ := h
  exact ⟨f, c, h1, h2, h3, h4, fun i hi => hE _ _ _ (h5 i hi)⟩
theorem Wk_rev {n : Nat} {w : Int} (h : Wk (fun a b k => E b a k) n s p w) : Wk E n p s w := by
  obtain ⟨f, c, h1, h2, h3, h4, h5⟩ := h
  refine ⟨fun i => f (n - i), fun i => w - c (n - i), ?_, ?_, ?_, ?_, fun i hi => ?_⟩
  · exact h3
  · show w - c n = 0
    omega
  · show f (n - n) = s
    rw [Nat.sub_self]; exact h1
  · show w - c (n - n) = w
    rw [Nat.sub_self, h2]; omega
  · show E (f (n - i)) (f (n - (i + 1))) (w - c (n - (i + 1)) - (w - c (n - i)))
    have h6 := h5 (n - (i + 1)) (by omega)
    rw [show n - (i + 1) + 1 = n - i by omega] at h6
    rw [show w - c (n - (i + 1)) - (w - c (n - i)) = c (n - i) - c (n - (i + 1)) by omega]
    exact h6
theorem IsD_up (hE : ∀ a b k, E' a b k → E a b k) (hE2 : ∀ a b k, E a b k → ∃ k', k' ≤ k ∧ E' a b k') (h : IsD E' P s I m) : IsD E P s I m := by
  obtain ⟨h1, h2, h3, h4⟩ := h
  refine ⟨h1, fun a b k he ha => ?_, fun p hp hm => ?_, h4⟩
  · obtain ⟨k', hk, he'⟩ := hE2 a b k he
    have := h2 a b k' he' ha
    omega
  · obtain ⟨n, hn⟩ := h3 p hp hm
    exact ⟨n, Wk_mono hE hn⟩
/-- x is the least of the walks from s to p; I: there is none -/
def Lst (E : Nat → Nat → Int → Prop) (s p : Nat) (I x : Int) : Prop := (0 ≤ x ∧ x ≤ 5841 ∧ (∃ n, Wk E n s p x) ∧ ∀ n w, Wk E n s p w → x ≤ w) ∨ (x = I ∧ ∀ n w, ¬ Wk E n s p w)
theorem IsD_Lst (hE : Okg E P 99) (hP : P ≤ 60) (hs : s < P) (hp : p < P) (hI : 5841 < I) (h : IsD E P s I m) : Lst E s p I (m p) := by
  by_cases hr : ∃ n w, Wk E n s p w
  · obtain ⟨n, w, hw⟩ := hr
    have a := IsD_fin hE hs h (by decide) hw
    have b : (99 : Int) * ((P - 1 : Nat) : Int) ≤ 5841 := by omega
    obtain ⟨n1, w1⟩ := h.2.2.1 p hp (by omega)
    exact Or.inl ⟨(Wk_cost hE w1).1, by omega, ⟨n1, w1⟩, fun n w hw => IsD_le hE hs h hw⟩
  · have hn : ∀ n w, ¬ Wk E n s p w := fun n w hw => hr ⟨n, w, hw⟩
    refine Or.inr ⟨?_, hn⟩
    have a := h.2.2.2 p hp
    by_cases hl : m p < I
    · obtain ⟨n, hw⟩ := h.2.2.1 p hp hl
      exact absurd hw (hn _ _)
    · omega
theorem Lst_one (h : Lst E s p I x) (h' : Lst E s p I' y) : (0 ≤ x ∧ x ≤ 5841 ∧ y = x ∧ ∃ n, Wk E n s p x) ∨ (x = I ∧ y = I' ∧ ∀ n w, ¬ Wk E n s p w) := by
  rcases h with ⟨h1, h2, ⟨n, h3⟩, h4⟩ | ⟨h1, h2⟩
  · rcases h' with ⟨g1, g2, ⟨n', g3⟩, g4⟩ | ⟨g1, g2⟩
    · have a := h4 _ _ g3
      have b := g4 _ _ h3
      exact Or.inl ⟨h1, h2, by omega, n, h3⟩
    · exact absurd h3 (g2 _ _)
  · rcases h' with ⟨g1, g2, ⟨n', g3⟩, g4⟩ | ⟨g1, g2⟩
    · exact absurd g3 (h2 _ _)
    · exact Or.inr ⟨h1, g1, h2⟩
theorem Lst_rev (h : Lst (fun a b k => E b a k) s p I x) : Lst E p s I x := by
  rcases h with ⟨h1, h2, ⟨n, h3⟩, h4⟩ | ⟨h1, h2⟩
  · exact Or.inl ⟨h1, h2, ⟨n, Wk_rev h3⟩, fun n w hw => h4 n w (Wk_rev (E := fun a b k => E b a k) hw)⟩
  · exact Or.inr ⟨h1, fun n w hw => h2 n w (Wk_rev (E := fun a b k => E b a k) hw)⟩
theorem SG_ok {c : Nat → Nat → Nat → Int} {al sh sl : Int} (hW : WW v) (hc : ∀ y s u, 1 ≤ c y s u ∧ c y s u ≤ 99) (hP : 2 * v 11 0 = (P : Int)) (hal : al < v 11 0) : Okg (SG v c al sh sl) P 99 := by
  obtain ⟨q1, q2, q3, q4, q5, q6⟩ := hW
  intro a b k he
  have T : ∀ y : Int, 0 ≤ y → y < v 11 0 → thr y.toNat a b → a < P ∧ b < P := fun y h1 h2 h3 => by
    unfold thr at h3
    omega
  unfold SG at he
  rcases he with (⟨w1, w2, w3⟩ | ⟨w1, w2, w3⟩) | ⟨h, w1, w2, ⟨w3, w4, w5⟩, w6, w7⟩ | ⟨w1, w2, w3⟩ | ⟨l, w1, w2, ⟨w3, w4, w5, w6⟩, w7, w8⟩ | ⟨w1, w2, w3⟩ | ⟨w1, w2, w3⟩
  · have := hc (a / 2) (a % 2) 1
    omega
  · have := hc (a / 2) (a % 2) 0
    omega
  · have t1 := T _ w4 w5 w6
    have t2 := (q4 h (by omega)).1
    omega
  · have t1 := T _ w1 hal w2
    omega
  · have t2 := (q4 l (by omega)).2
    omega
  · have t1 := T 0 (by omega) (by omega) w2
    omega
  · have t1 := T _ (by omega) (by omega) w2
    omega
theorem MH_MOK {T : Nat → Nat → Int → Prop} {N : Nat} (hN : N ≤ 60) (h : MH v T) : MOK v N := ⟨hN, fun a b ha hb => by
  rcases h.1 a b (by omega) (by omega) with w | w
  · exact Or.inr w
  · exact Or.inl (h.2.2 a b _ w).2.2⟩
theorem MH_E {T : Nat → Nat → Int → Prop} {N : Nat} (h : MH v T) (a b : Nat) (k : Int) (he : EM v N a b k) (hN : N ≤ 60) : T a b k := by
  obtain ⟨h1, h2, h3, h4⟩ := he
  rcases h.1 a b (by omega) (by omega) with w | w
  · omega
  · rw [h3] at w
    exact w
theorem MH_IsD {T : Nat → Nat → Int → Prop} {N : Nat} (hN : N ≤ 60) (hT : Okg T N 99) (h : MH v T) (hD : IsD (EM v N) N s I m) : IsD T N s I m := IsD_up (fun a b k he => MH_E h a b k he hN) (fun a b k he => by
  obtain ⟨h1, h2, h3⟩ := hT a b k he
  have h4 := h.2.1 a b k he
  exact ⟨v 74 (60 * a + b), h4, h1, h2, rfl, by omega⟩) hD
/-- the reference's ways from a place, its steps asked -/
theorem m_from {T : Nat → Nat → Int → Prop} {N : Nat} (hN : N ≤ 60) (hY : 2 * v 64 140 = (N : Int)) (hT : Okg T N 99) (h : MH v T) (hs : s < N) : ∃ v', qE L xs (d + 2) nX12_goesFrom [(2, 63), (0, (s : Int))] (qS v) = some (none, qS v') ∧ (∀ c, c ≠ 75 → c ≠ 76 → v' c = v c) ∧ ∀ p, p < N → Lst T s p 1000000 (v' 75 p) := by
  obtain ⟨v1, e1, e2, e3⟩ := m_goesFrom (L := L) (xs := xs) (d := d) hY (MH_MOK hN h) hs
  exact ⟨v1, e1, e2, fun p hp => IsD_Lst hT hN hs hp (by decide) (MH_IsD hN hT h e3)⟩
theorem m_wayFrom {T : Nat → Nat → Int → Prop} {N : Nat} (hN : N ≤ 60) (hY : 2 * v 64 140 = (N : Int)) (hT : Okg T N 99) (h : MH v T) (hs : s < N) (hp : p < N) : ∃ v' r, qE L xs (d + 3) nX12_wayFrom [(2, 63), (0, (s : Int)), (0, (p : Int))] (qS v) = some (some (0, r), qS v') ∧ (∀ c, c ≠ 75 → c ≠ 76 → v' c = v c) ∧ Lst T s p (-2) r := by
  obtain ⟨v1, e1, e2, e3⟩ := m_from (L := L) (xs := xs) (d := d) hN hY hT h hs
  have e4 := e3 p hp
  refine ⟨v1, if v1 75 p < 1000000 then v1 75 p else -2, ?_, e2, ?_⟩
  · rw [e_X12_wayFrom, b_X12_wayFrom_0, e1, qB_some, psh_none, b_X12_wayFrom_5, if_pos (by omega), Int.toNat_natCast, b_X12_wayFrom_11]
    by_cases g : v1 75 p < 1000000
    · rw [if_pos g, if_pos g, b_X12_wayFrom_16, if_pos (by omega), Int.toNat_natCast, b_X12_wayFrom_22, b_X12_wayFrom_27]
    · rw [if_neg g, if_neg g, b_X12_wayFrom_25, b_X12_wayFrom_27]
  · rcases e4 with ⟨h1, h2, h3, h4⟩ | ⟨h1, h2⟩
    · rw [if_pos (by omega)]
      exact Or.inl ⟨h1, h2, h3, h4⟩
    · rw [if_neg (by omega)]
      exact Or.inr ⟨rfl, h2⟩
theorem EC_E {v' : Nat → Nat → Int} {S : Nat} {c : Nat → Nat → Nat → Int} (hW : WW v) (h : LyI v' S P (TT v c)) {x : Int} (hx : -1 ≤ x) : EC v' S x = SG v c (-1) (if x < 12 then x else -1) (if x < 12 then -1 else x - 12) := by
  funext a b k
  exact propext (EC_SG hW h hx a b k)
/-- the class's ways from a place, its steps laid -/
theorem c_from {S : Nat} {T : Nat → Nat → Int → Prop} {z : Int} (h : WOK v S P) (hE : EC v S z = T) (hs : s < P) : ∃ v', qE L xs (d + 3) nX10_spread [(2, 29), (0, (s : Int)), (0, z)] (qS v) = some (none, qS v') ∧ (∀ c, c ≠ 34 → v' c = v c) ∧ ∀ p, p < P → Lst T s p 9999 (v' 34 p) := by
  obtain ⟨v1, e1, e2, e3⟩ := c_spread (L := L) (xs := xs) (d := d) (x := z) h hs
  have hO := EC_ok (x := z) h
  rw [hE] at e3 hO
  exact ⟨v1, e1, e2, fun p hp => IsD_Lst hO h.2.2.2.1 hs hp (by decide) e3⟩
theorem c_back {S : Nat} {T : Nat → Nat → Int → Prop} (h : WOK v S P) (hE : EC v S (-1) = T) (hs : s < P) : ∃ v', qE L xs (d + 3) nX10_spreadBack [(2, 29), (0, (s : Int))] (qS v) = some (none, qS v') ∧ (∀ c, c ≠ 34 → v' c = v c) ∧ ∀ p, p < P → Lst T p s 9999 (v' 34 p) := by
  obtain ⟨v1, e1, e2, e3⟩ := c_spreadBack (L := L) (xs := xs) (d := d) h hs
  have hO := EB_ok h
  have hB : EB v S = fun a b k => T b a k := by
    funext a b k
    show EC v S (-1) b a k = _
    rw [hE]
  rw [hB] at e3 hO
  exact ⟨v1, e1, e2, fun p hp => Lst_rev (IsD_Lst hO h.2.2.2.1 hs hp (by decide) e3)⟩
end LE
end
