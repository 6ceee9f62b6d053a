/-! WALKS over steps, in plain numbers: distances, and that they are but one -/
section GR
/-- a walk of n steps, as the places it comes by and the minutes up to each -/
def Wk (E : Nat → Nat → Int → Prop) (n s p : Nat) (w : Int) : Prop := ∃ (f : Nat → Nat) (c : Nat → Int), f 0 = s ∧ c 0 = 0 ∧ f n = p ∧ c n = w ∧ ∀ i, i < n → E (f i) (f (i + 1)) (c (i + 1) - c i)
variable {E : Nat → Nat → Int → Prop} {P s : Nat} {K : Int}
theorem Wk_0 (s : Nat) : Wk E 0 s s 0 := ⟨fun _ => s, fun _ => 0, rfl, rfl, rfl, rfl, fun i hi => absurd hi (by omega)⟩
theorem Wk_snoc {n p q : Nat} {w k : Int} (h : Wk E n s p w) (he : E p q k) : Wk E (n + 1) s q (w + k) := by
  obtain ⟨f, c, h1, h2, h3, h4, h5⟩ := h
  refine ⟨fun i => if i ≤ n then f i else q, fun i => if i ≤ n then c i else w + k, ?_, ?_, ?_, ?_, fun i hi => ?_⟩
  · dsimp only; rw [if_pos (by omega)]; exact h1
  · dsimp only; rw [if_pos (by omega)]; exact h2
  · dsimp only; rw [if_neg (by omega)]
  · dsimp only; rw [if_neg (by omega)]
  · dsimp only
    by_cases hn : i < n
    · rw [if_pos (by omega), if_pos (by omega), if_pos (by omega), if_pos (by omega)]
      exact h5 i hn
    · rw [if_pos (by omega), if_neg (by omega), if_neg (by omega), if_pos (by omega), show i = n by omega, h3, h4, show w + k - w = k by omega]
      exact he
theorem Wk_init {n q : Nat} {w : Int} (h : Wk E (n + 1) s q w) : ∃ p k, Wk E n s p (w - k) ∧ E p q k := by
  obtain ⟨f, c, h1, h2, h3, h4, h5⟩ := h
  refine ⟨f n, c (n + 1) - c n, ⟨f, c, h1, h2, rfl, by omega, fun i hi => h5 i (by omega)⟩, ?_⟩
  have := h5 n (by omega)
  rw [h3] at this
  exact this
theorem pigeon : ∀ (P : Nat) (f : Nat → Nat), (∀ i, i ≤ P → f i < P) → ∃ i j, i < j ∧ j ≤ P ∧ f i = f j
  | 0, f, h => absurd (h 0 (by omega)) (by omega)
  | P + 1, f, h => by
    by_cases hv : ∃ i, i ≤ P ∧ f i = f (P + 1)
    · obtain ⟨i, hi, he⟩ := hv
      exact ⟨i, P + 1, by omega, by omega, he⟩
    · have hn : ∀ i, i ≤ P → f i ≠ f (P + 1) := fun i hi he => hv ⟨i, hi, he⟩
      obtain ⟨i, j, h1, h2, h3⟩ := pigeon P (fun i => if f i = P then f (P + 1) else f i) (fun i hi => by
        have a1 := h i (by omega)
        have a2 := h (P + 1) (by omega)
        have a3 := hn i hi
        by_cases hp : f i = P
        · rw [if_pos hp]; omega
        · rw [if_neg hp]; omega)
      refine ⟨i, j, h1, by omega, ?_⟩
      have a3 := hn i (by omega)
      have a4 := hn j h2
      by_cases hp : f i = P
      · by_cases hq : f j = P
        · rw [hp, hq]
        · rw [if_pos hp, if_neg hq] at h3
          exact absurd h3.symm a4
      · by_cases hq : f j = P
        · rw [if_neg hp, if_pos hq] at h3
          exact absurd h3 a3
        · rw [if_neg hp, if_neg hq] at h3
          exact h3
/-- steps between places below P, of 0 to K minutes -/
abbrev Okg (E : Nat → Nat → Int → Prop) (P : Nat) (K : Int) : Prop := ∀ a b k, E a b k → a < P ∧ b < P ∧ 0 ≤ k ∧ k ≤ K
theorem Wk_in (hE : Okg E P K) (hs : s < P) {n p : Nat} {w : Int} (h : Wk E n s p w) : p < P := by
  cases n with
  | zero =>
    obtain ⟨f, c, h1, h2, h3, h4, h5⟩ := h
    omega
  | succ n =>
    obtain ⟨q, k, -, he⟩ := Wk_init h
    exact (hE _ _ _ he).2.1
theorem Wk_cost (hE : Okg E P K) : ∀ {n p : Nat} {w : Int}, Wk E n s p w → 0 ≤ w ∧ w ≤ K * n
  | 0, p, w, h => by
    obtain ⟨f, c, h1, h2, h3, h4, h5⟩ := h
    omega
  | n + 1, p, w, h => by
    obtain ⟨q, k, h1, he⟩ := Wk_init h
    have h2 := Wk_cost hE h1
    have h3 := (hE _ _ _ he).2.2
    have h4 : K * ((n + 1 : Nat) : Int) = K * n + K := by
      rw [show ((n + 1 : Nat) : Int) = (n : Int) + 1 by omega, Int.mul_add, Int.mul_one]
    rw [h4]
    omega
/-- a walk can be cut to fewer steps than there are places -/
theorem Wk_cut (hE : Okg E P K) (hs : s < P) : ∀ (N n p : Nat) (w : Int), n ≤ N → Wk E n s p w → ∃ n' w', n' < P ∧ w' ≤ w ∧ Wk E n' s p w'
  | N, n, p, w, hN, h => by
    by_cases hn : n < P
    · exact ⟨n, w, hn, by omega, h⟩
    · obtain ⟨f, c, h1, h2, h3, h4, h5⟩ := h
      have hf : ∀ i, i ≤ n → f i < P := fun i hi => by
        by_cases h0 : i = n
        · rw [h0]
          exact Wk_in hE hs ⟨f, c, h1, h2, rfl, rfl, h5⟩
        · exact (hE _ _ _ (h5 i (by omega))).1
      obtain ⟨i, j, hij, hj, he⟩ := pigeon P f (fun i hi => hf i (by omega))
      have hc : c i ≤ c j := by
        have mono : ∀ t, i + t ≤ n → c i ≤ c (i + t) := fun t => by
          induction t with
          | zero => intro _; exact Int.le_refl _
          | succ t ih =>
            intro ht
            have a := ih (by omega)
            have b := (hE _ _ _ (h5 (i + t) (by omega))).2.2.1
            rw [show i + (t + 1) = i + t + 1 by omega]
            omega
        have := mono (j - i) (by omega)
        rw [show i + (j - i) = j by omega] at this
        exact this
      cases N with
      | zero => omega
      | succ N =>
        have hw : Wk E (n - (j - i)) s p (w - (c j - c i)) := by
          refine ⟨fun k => if k ≤ i then f k else f (k + (j - i)), fun k => if k ≤ i then c k else c (k + (j - i)) - (c j - c i), ?_, ?_, ?_, ?_, fun k hk => ?_⟩
          · dsimp only; rw [if_pos (by omega)]; exact h1
          · dsimp only; rw [if_pos (by omega)]; exact h2
          · dsimp only
            by_cases hk : n - (j - i) ≤ i
            · rw [if_pos hk, show n - (j - i) = i by omega, he, show j = n by omega]; exact h3
            · rw [if_neg hk, show n - (j - i) + (j - i) = n by omega]; exact h3
          · dsimp only
            by_cases hk : n - (j - i) ≤ i
            · rw [if_pos hk, show n - (j - i) = i by omega, show j = n by omega, h4]; omega
            · rw [if_neg hk, show n - (j - i) + (j - i) = n by omega, h4]
          · dsimp only
            by_cases hk1 : k + 1 ≤ i
            · rw [if_pos (by omega), if_pos hk1, if_pos hk1, if_pos (by omega)]
              exact h5 k (by omega)
            · by_cases hk2 : k ≤ i
              · have hki : k = i := by omega
                subst hki
                rw [if_pos (by omega), if_neg (by omega), if_neg (by omega), if_pos (by omega), he, show k + 1 + (j - k) = j + 1 by omega]
                have := h5 j (by omega)
                rw [show c (j + 1) - (c j - c k) - c k = c (j + 1) - c j by omega]
                exact this
              · rw [if_neg (by omega), if_neg (by omega), if_neg (by omega), if_neg (by omega), show k + 1 + (j - i) = k + (j - i) + 1 by omega]
                have := h5 (k + (j - i)) (by omega)
                rw [show c (k + (j - i) + 1) - (c j - c i) - (c (k + (j - i)) - (c j - c i)) = c (k + (j - i) + 1) - c (k + (j - i)) by omega]
                exact this
        obtain ⟨n', w', g1, g2, g3⟩ := Wk_cut hE hs N (n - (j - i)) p _ (by omega) hw
        exact ⟨n', w', g1, by omega, g3⟩
/-- m tells the minutes from s; INF where there is no walk -/
def IsD (E : Nat → Nat → Int → Prop) (P s : Nat) (I : Int) (m : Nat → Int) : Prop := m s = 0 ∧ (∀ a b k, E a b k → m a < I → m b ≤ m a + k) ∧ (∀ p, p < P → m p < I → ∃ n, Wk E n s p (m p)) ∧ ∀ p, p < P → m p ≤ I
theorem IsD_le (hE : Okg E P K) (hs : s < P) {I : Int} {m : Nat → Int} (h : IsD E P s I m) : ∀ {n p : Nat} {w : Int}, Wk E n s p w → m p ≤ w
  | 0, p, w, hw => by
    obtain ⟨f, c, h1, h2, h3, h4, h5⟩ := hw
    rw [← h3, h1, h.1]
    omega
  | n + 1, p, w, hw => by
    obtain ⟨q, k, h1, he⟩ := Wk_init hw
    have h2 := IsD_le hE hs h h1
    have h3 := hE _ _ _ he
    by_cases hq : m q < I
    · have := h.2.1 _ _ _ he hq
      omega
    · have a := h.2.2.2 p h3.2.1
      omega
theorem IsD_fin (hE : Okg E P K) (hs : s < P) {I : Int} {m : Nat → Int} (h : IsD E P s I m) (hK : 0 ≤ K) {n p : Nat} {w : Int} (hw : Wk E n s p w) : m p ≤ K * ((P - 1 : Nat) : Int) := by
  obtain ⟨n', w', g1, g2, g3⟩ := Wk_cut hE hs n n p w (by omega) hw
  have a := IsD_le hE hs h g3
  have b := (Wk_cost hE g3).2
  have c : K * (n' : Int) ≤ K * ((P - 1 : Nat) : Int) := Int.mul_le_mul_of_nonneg_left (by omega) hK
  omega
end GR
