/-! THE REFERENCE's spreading: the nearest place first -/
section DJ
variable {L : Nat} {xs : Nat → Int} {d : Nat} {v : Nat → Nat → Int}
/-- the matrix of steps: 1 to 99 minutes, or none -/
def MOK (v : Nat → Nat → Int) (N : Nat) : Prop := N ≤ 60 ∧ ∀ a b, a < N → b < N → (1 ≤ v 74 (60 * a + b) ∧ v 74 (60 * a + b) ≤ 99) ∨ v 74 (60 * a + b) = 1000000
def EM (v : Nat → Nat → Int) (N : Nat) (a b : Nat) (k : Int) : Prop := a < N ∧ b < N ∧ v 74 (60 * a + b) = k ∧ k < 1000000
/-- how many are not sure yet -/
def cnt (f : Nat → Int) : Nat → Nat
  | 0 => 0
  | n + 1 => cnt f n + (if f n = 0 then 1 else 0)
theorem cnt_pos {f : Nat → Int} : ∀ {n : Nat}, 0 < cnt f n → ∃ p, p < n ∧ f p = 0
  | 0, h => absurd h (by unfold cnt; omega)
  | n + 1, h => by
    by_cases hf : f n = 0
    · exact ⟨n, by omega, hf⟩
    · unfold cnt at h
      rw [if_neg hf] at h
      obtain ⟨p, h1, h2⟩ := cnt_pos (n := n) (by omega)
      exact ⟨p, by omega, h2⟩
theorem cnt_zero {f : Nat → Int} : ∀ {n : Nat}, cnt f n = 0 → ∀ p, p < n → f p ≠ 0
  | 0, _, p, hp => absurd hp (by omega)
  | n + 1, h, p, hp => by
    unfold cnt at h
    by_cases hf : f n = 0
    · rw [if_pos hf] at h; omega
    · rw [if_neg hf] at h
      by_cases hpn : p = n
      · rw [hpn]; exact hf
      · exact cnt_zero (n := n) (by omega) p (by omega)
theorem cnt_set {f : Nat → Int} {q : Nat} {z : Int} (hz : z ≠ 0) (hq : f q = 0) : ∀ {n : Nat}, cnt (fun p => if p = q then z else f p) n + (if q < n then 1 else 0) = cnt f n
  | 0 => rfl
  | n + 1 => by
    have ih := cnt_set hz hq (n := n)
    show cnt (fun p => if p = q then z else f p) n + (if (if n = q then z else f n) = 0 then 1 else 0) + (if q < n + 1 then 1 else 0) = cnt f n + (if f n = 0 then 1 else 0)
    by_cases hn : n = q
    · rw [if_pos hn, if_neg hz, if_pos (show q < n + 1 by omega), hn, if_pos hq]
      rw [if_neg (show ¬ q < n by omega), hn] at ih
      omega
    · rw [if_neg hn]
      by_cases hlt : q < n
      · rw [if_pos hlt] at ih
        rw [if_pos (show q < n + 1 by omega)]
        omega
      · rw [if_neg hlt] at ih
        rw [if_neg (show ¬ q < n + 1 by omega)]
        omega
theorem cnt_all {f : Nat → Int} : ∀ {n : Nat}, (∀ p, p < n → f p = 0) → cnt f n = n
  | 0, _ => rfl
  | n + 1, h => by
    unfold cnt
    rw [cnt_all (n := n) (fun p hp => h p (by omega)), if_pos (h n (by omega))]
/-- the minutes so far, and who is sure -/
def Dj (E : Nat → Nat → Int → Prop) (g : Nat → Nat → Int) (N s : Nat) (m f : Nat → Int) (t : Nat) : Prop := (m s = 0 ∧ (∀ p, p < N → 0 ≤ m p ∧ m p ≤ 1000000) ∧ ∀ p, p < N → m p < 1000000 → ∃ n, Wk E n s p (m p)) ∧ (∀ p, p < N → f p = 0 ∨ f p = 1) ∧ cnt f N + t = N ∧ (∀ a b, a < N → b < N → f a = 1 → m a < 1000000 → m b ≤ m a + g a b) ∧ ∀ a b, a < N → b < N → f a = 1 → f b = 0 → m a ≤ m b
/-- the nearest of the first i that aren't sure, or -1 -/
def nr (m f : Nat → Int) : Nat → Int
  | 0 => -1
  | i + 1 => if f i = 0 ∧ (nr m f i < 0 ∨ m i < m (nr m f i).toNat) then (i : Int) else nr m f i
theorem nr_in {m f : Nat → Int} : ∀ i, -1 ≤ nr m f i ∧ nr m f i < (i : Int)
  | 0 => ⟨by show (-1 : Int) ≤ -1; omega, by show (-1 : Int) < ((0 : Nat) : Int); omega⟩
  | i + 1 => by
    have h := nr_in (m := m) (f := f) i
    unfold nr
    split
    · omega
    · omega
theorem nr_is {m f : Nat → Int} : ∀ i, (0 ≤ nr m f i → f (nr m f i).toNat = 0) ∧ ∀ p, p < i → f p = 0 → 0 ≤ nr m f i ∧ m (nr m f i).toNat ≤ m p
  | 0 => ⟨fun h => absurd h (by show ¬ (0 : Int) ≤ -1; omega), fun p hp => absurd hp (by omega)⟩
  | i + 1 => by
    have h := nr_is (m := m) (f := f) i
    unfold nr
    by_cases hc : f i = 0 ∧ (nr m f i < 0 ∨ m i < m (nr m f i).toNat)
    · rw [if_pos hc, Int.toNat_natCast]
      refine ⟨fun _ => hc.1, fun p hp hf => ⟨by omega, ?_⟩⟩
      by_cases hpi : p = i
      · rw [hpi]; exact Int.le_refl _
      · have h2 := h.2 p (by omega) hf
        rcases hc.2 with hl | hl
        · omega
        · omega
    · rw [if_neg hc]
      refine ⟨h.1, fun p hp hf => ?_⟩
      by_cases hpi : p = i
      · subst hpi
        by_cases hn : nr m f p < 0
        · exact absurd ⟨hf, Or.inl hn⟩ hc
        · refine ⟨by omega, ?_⟩
          by_cases hl : m p < m (nr m f p).toNat
          · exact absurd ⟨hf, Or.inr hl⟩ hc
          · omega
      · exact h.2 p (by omega) hf
/-- the steps from q taken, to the first i -/
def rlx (m g : Nat → Int) (q i : Nat) : Nat → Int := fun p => if p < i ∧ m q + g p < m p then m q + g p else m p
theorem lp_near (a t : Int) {N : Nat} (hN : N ≤ 60) : ∀ (n i : Nat) (u6 : pm_V), i + n = N → qG L xs d CX12_goesFrom 55 [(2, 63), (0, a), (0, (N : Int)), (0, t), (0, nr (v 75) (v 76) i), (0, (i : Int)), u6] [] (qS v) = qG L xs d CX12_goesFrom 108 [(2, 63), (0, a), (0, (N : Int)), (0, t), (0, nr (v 75) (v 76) N), (0, (N : Int)), u6] [] (qS v)
  | 0, i, u6, hi => by
    rw [b_X12_goesFrom_55, if_neg (by omega), show i = N by omega]
  | n + 1, i, u6, hi => by
    have h3 := lp_near a t hN n (i + 1) u6 (by omega)
    have hr := nr_in (m := v 75) (f := v 76) i
    rw [show ((i + 1 : Nat) : Int) = (i : Int) + 1 by omega] at h3
    refine Eq.trans ?_ h3
    have e : nr (v 75) (v 76) (i + 1) = if v 76 i = 0 ∧ (nr (v 75) (v 76) i < 0 ∨ v 75 i < v 75 (nr (v 75) (v 76) i).toNat) then (i : Int) else nr (v 75) (v 76) i := rfl
    rw [e]
    by_cases h0 : v 76 i = 0
    · by_cases h1 : nr (v 75) (v 76) i < 0
      · rw [if_pos ⟨h0, Or.inl h1⟩]
        conv => lhs; simp (disch := omega) only [b_X12_goesFrom_55, b_X12_goesFrom_61, b_X12_goesFrom_68, b_X12_goesFrom_71, b_X12_goesFrom_93, if_pos, Int.toNat_natCast, h0, ↓reduceIte]
        rw [b_X12_goesFrom_100, w32_id (by omega) (by omega)]
      · by_cases h2 : v 75 i < v 75 (nr (v 75) (v 76) i).toNat
        · rw [if_pos ⟨h0, Or.inr h2⟩]
          conv => lhs; simp (disch := omega) only [b_X12_goesFrom_55, b_X12_goesFrom_61, b_X12_goesFrom_68, b_X12_goesFrom_71, b_X12_goesFrom_76, b_X12_goesFrom_83, b_X12_goesFrom_90, b_X12_goesFrom_93, if_pos, if_neg, Int.toNat_natCast, h0, ↓reduceIte]
          rw [b_X12_goesFrom_100, w32_id (by omega) (by omega)]
        · rw [if_neg (by omega)]
          conv => lhs; simp (disch := omega) only [b_X12_goesFrom_55, b_X12_goesFrom_61, b_X12_goesFrom_68, b_X12_goesFrom_71, b_X12_goesFrom_76, b_X12_goesFrom_83, b_X12_goesFrom_90, b_X12_goesFrom_98, if_pos, if_neg, Int.toNat_natCast, h0, ↓reduceIte]
          rw [b_X12_goesFrom_100, w32_id (by omega) (by omega)]
    · rw [if_neg (fun q => h0 q.1)]
      conv => lhs; simp (disch := omega) only [b_X12_goesFrom_55, b_X12_goesFrom_61, b_X12_goesFrom_68, b_X12_goesFrom_98, if_pos, if_neg, Int.toNat_natCast]
      rw [b_X12_goesFrom_100, w32_id (by omega) (by omega)]
theorem lp_relax (a t : Int) {N q : Nat} {m0 g : Nat → Int} (hN : N ≤ 60) (hq : q < N) (hm : ∀ p, p < N → 0 ≤ m0 p ∧ m0 p ≤ 1000000) (hg : ∀ p, p < N → 1 ≤ g p ∧ g p ≤ 1000000) (hl : m0 q < 1000000) : ∀ (n i : Nat) (v : Nat → Nat → Int) (u6 : pm_V), i + n = N → (∀ p, p < N → v 74 (60 * q + p) = g p) → v 75 = rlx m0 g q i → ∃ v' w6, qG L xs d CX12_goesFrom 119 [(2, 63), (0, a), (0, (N : Int)), (0, t), (0, (q : Int)), (0, (i : Int)), u6] [] (qS v) = qG L xs d CX12_goesFrom 197 [(2, 63), (0, a), (0, (N : Int)), (0, t), (0, (q : Int)), (0, (N : Int)), w6] [] (qS v') ∧ (∀ c, c ≠ 75 → v' c = v c) ∧ v' 75 = rlx m0 g q N
  | 0, i, v, u6, hi, h74, h75 => by
    have hiN : i = N := by omega
    subst hiN
    refine ⟨v, u6, ?_, fun _ _ => rfl, h75⟩
    rw [b_X12_goesFrom_119, if_neg (by omega)]
  | n + 1, i, v, u6, hi, h74, h75 => by
    have q1 := hm q hq
    have q2 := hg q hq
    have i1 := hm i (by omega)
    have i2 := hg i (by omega)
    have eq : v 75 q = m0 q := by
      rw [h75]
      exact if_neg (by omega)
    have ei : v 75 i = m0 i := by
      rw [h75]
      exact if_neg (by omega)
    have e4 : v 74 (60 * (q : Int) + (i : Int)).toNat = g i := by
      rw [show (60 * (q : Int) + (i : Int)).toNat = 60 * q + i by omega]
      exact h74 i (by omega)
    have a1 : qG L xs d CX12_goesFrom 119 [(2, 63), (0, a), (0, (N : Int)), (0, t), (0, (q : Int)), (0, (i : Int)), u6] [] (qS v) = qG L xs d CX12_goesFrom 190 [(2, 63), (0, a), (0, (N : Int)), (0, t), (0, (q : Int)), (0, (i : Int)), (0, m0 q + g i)] [(0, if m0 q + g i < m0 i then m0 q + g i else m0 i), (0, (i : Int)), (2, 75)] (qS v) := by
      by_cases hc : m0 q + g i < m0 i
      · rw [if_pos hc]
        simp (disch := omega) only [b_X12_goesFrom_119, b_X12_goesFrom_125, b_X12_goesFrom_132, b_X12_goesFrom_137, b_X12_goesFrom_144, b_X12_goesFrom_157, b_X12_goesFrom_175, b_X12_goesFrom_178, if_pos, w32_id, Int.toNat_natCast, eq, ei, e4]
      · rw [if_neg hc]
        simp (disch := omega) only [b_X12_goesFrom_119, b_X12_goesFrom_125, b_X12_goesFrom_132, b_X12_goesFrom_137, b_X12_goesFrom_144, b_X12_goesFrom_157, b_X12_goesFrom_175, b_X12_goesFrom_183, if_pos, if_neg, w32_id, Int.toNat_natCast, eq, ei, e4]
    have hu : ∀ c, c ≠ 75 → pm_up v 75 i (if m0 q + g i < m0 i then m0 q + g i else m0 i) c = v c := fun c hc => up_cell hc
    obtain ⟨v', w6, e1, e2, e3⟩ := lp_relax a t hN hq hm hg hl n (i + 1) (pm_up v 75 i (if m0 q + g i < m0 i then m0 q + g i else m0 i)) (0, m0 q + g i) (by omega) (fun p hp => by rw [hu 74 (by decide)]; exact h74 p hp) (by
      rw [up_fn, h75]
      funext p
      unfold rlx
      by_cases hp : p = i
      · subst hp
        rw [if_pos rfl]
        by_cases hc : m0 q + g p < m0 p
        · rw [if_pos hc, if_pos ⟨by omega, hc⟩]
        · rw [if_neg hc, if_neg (fun w => hc w.2)]
      · rw [if_neg hp]
        by_cases hc : p < i ∧ m0 q + g p < m0 p
        · rw [if_pos hc, if_pos ⟨by omega, hc.2⟩]
        · rw [if_neg hc, if_neg (fun w => hc ⟨by omega, w.2⟩)])
    refine ⟨v', w6, ?_, fun c hc => (e2 c hc).trans (hu c hc), e3⟩
    rw [show ((i + 1 : Nat) : Int) = (i : Int) + 1 by omega] at e1
    refine Eq.trans ?_ e1
    rw [a1, b_X12_goesFrom_190, if_pos (by omega), b_X12_goesFrom_191, w32_id (by omega) (by omega), Int.toNat_natCast]
end DJ
