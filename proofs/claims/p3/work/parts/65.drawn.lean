/-! DRAWN: walks by draws -/
section DR
variable {L : Nat} {xs : Nat → Int} {d : Nat} {v : Nat → Nat → Int} {c : Nat → Nat → Nat → Int} {P : Nat}
theorem ush8 (z : Int) : 0 ≤ pm_ush z 8 := by
  unfold pm_ush
  have hb : (Int32.ofInt 8).toUInt32 &&& Int32.toUInt32 31 = 8 := by decide
  rw [hb]
  generalize (Int32.ofInt z).toUInt32 = u
  have h1 : (u >>> 8).toNat < 16777216 := by
    rw [UInt32.toNat_shiftRight, Nat.shiftRight_eq_div_pow]
    have := u.toNat_lt
    have e : 2 ^ (UInt32.toNat 8 % 32) = 256 := by decide
    rw [e]
    omega
  show 0 ≤ (u >>> 8).toBitVec.toInt
  rw [BitVec.toInt_eq_toNat_cond]
  have h2 : (u >>> 8).toBitVec.toNat = (u >>> 8).toNat := rfl
  rw [h2]
  split
  · omega
  · omega
/-- how many ones from j on; the k-th of them -/
def onF (f : Nat → Int) : Nat → Nat → Int
  | 0, _ => 0
  | n + 1, j => f j + onF f n (j + 1)
def kthF (f : Nat → Int) : Nat → Nat → Int → Nat
  | 0, j, _ => j
  | n + 1, j, k => if f j = 1 ∧ k = 0 then j else kthF f n (j + 1) (k - f j)
theorem onF_in {f : Nat → Int} : ∀ (n j : Nat), (∀ q, j ≤ q → q < j + n → f q = 0 ∨ f q = 1) → 0 ≤ onF f n j ∧ onF f n j ≤ (n : Int)
  | 0, j, h => ⟨Int.le_refl 0, Int.le_refl 0⟩
  | n + 1, j, h => by
    have ih := onF_in n (j + 1) (fun q h1 h2 => h q (by omega) (by omega))
    have := h j (by omega) (by omega)
    unfold onF
    omega
theorem onF_cg {f g : Nat → Int} : ∀ (n j : Nat), (∀ q, j ≤ q → q < j + n → f q = g q) → onF f n j = onF g n j
  | 0, j, h => rfl
  | n + 1, j, h => by
    unfold onF
    rw [h j (by omega) (by omega), onF_cg n (j + 1) (fun q h1 h2 => h q (by omega) (by omega))]
theorem onF_set {f : Nat → Int} {q : Nat} : ∀ (n j : Nat), onF (fun p => if p = q then 1 else f p) n j = onF f n j + (if j ≤ q ∧ q < j + n then 1 - f q else 0)
  | 0, j => by
    rw [if_neg (by omega)]
    rfl
  | n + 1, j => by
    have ih := onF_set (f := f) (q := q) n (j + 1)
    unfold onF
    rw [ih]
    by_cases h : j = q
    · subst h
      rw [if_pos rfl, if_neg (by omega), if_pos (by omega)]
      omega
    · rw [if_neg h]
      by_cases h2 : j + 1 ≤ q ∧ q < j + 1 + n
      · rw [if_pos h2, if_pos (by omega)]
        omega
      · rw [if_neg h2, if_neg (by omega)]
        omega
theorem kthF_in {f : Nat → Int} : ∀ (n j : Nat) (k : Int), (∀ q, j ≤ q → q < j + n → f q = 0 ∨ f q = 1) → 0 ≤ k → k < onF f n j → j ≤ kthF f n j k ∧ kthF f n j k < j + n
  | 0, j, k, h, h1, h2 => by
    unfold onF at h2
    omega
  | n + 1, j, k, h, h1, h2 => by
    unfold kthF
    unfold onF at h2
    by_cases g : f j = 1 ∧ k = 0
    · rw [if_pos g]; omega
    · rw [if_neg g]
      have hj := h j (by omega) (by omega)
      have ih := kthF_in n (j + 1) (k - f j) (fun q h1 h2 => h q (by omega) (by omega)) (by omega) (by omega)
      omega
theorem lp_aheadAt {f : Nat → Int} (x1 : Int) (h9 : v 29 9 = (P : Int)) (hP : P ≤ 60) (hf : ∀ q, q < P → v 36 q = f q) (h01 : ∀ q, q < P → f q = 0 ∨ f q = 1) : ∀ (n j : Nat) (k : Int), j + n = P → 0 ≤ k → k < onF f n j → qG L xs d CX10_aheadAt 4 [(2, 29), (0, x1), (0, k), (0, (j : Int))] [] (qS v) = some (some (0, (kthF f n j k : Int)), qS v)
  | 0, j, k, hj, h1, h2 => by
    unfold onF at h2
    omega
  | n + 1, j, k, hj, h1, h2 => by
    unfold onF at h2
    unfold kthF
    have hj2 := h01 j (by omega)
    have hk := onF_in (f := f) n (j + 1) (fun q h1 h2 => h01 q (by omega))
    rw [b_X10_aheadAt_4, if_pos (by omega), b_X10_aheadAt_12, if_pos (by omega), Int.toNat_natCast, hf j (by omega), b_X10_aheadAt_18]
    by_cases g : f j = 1
    · by_cases g2 : k = 0
      · rw [if_pos g, if_pos ⟨g, g2⟩, b_X10_aheadAt_22, if_pos g2, b_X10_aheadAt_26]
      · have ih := lp_aheadAt x1 h9 hP hf h01 n (j + 1) (k - f j) (by omega) (by omega) (by omega)
        rw [if_pos g, if_neg (fun q => g2 q.2), b_X10_aheadAt_22, if_neg g2, b_X10_aheadAt_28, w32_id (by omega) (by omega), b_X10_aheadAt_31, w32_id (by omega) (by omega), ← ih, show k + -1 = k - f j by omega]
        rfl
    · have ih := lp_aheadAt x1 h9 hP hf h01 n (j + 1) (k - f j) (by omega) (by omega) (by omega)
      rw [if_neg g, if_neg (fun q => g q.1), b_X10_aheadAt_31, w32_id (by omega) (by omega), ← ih, show k - f j = k by omega]
      rfl
theorem c_aheadAt {f : Nat → Int} {k : Int} (h9 : v 29 9 = (P : Int)) (hP : P ≤ 60) (hf : ∀ q, q < P → v 36 q = f q) (h01 : ∀ q, q < P → f q = 0 ∨ f q = 1) (h1 : 0 ≤ k) (h2 : k < onF f P 0) : qE L xs (d + 1) nX10_aheadAt [(2, 29), (0, k)] (qS v) = some (some (0, (kthF f P 0 k : Int)), qS v) := by
  rw [e_X10_aheadAt, b_X10_aheadAt_0]
  exact lp_aheadAt k h9 hP hf h01 P 0 k (by omega) h1 h2
/-- in front of the i-th step laid: who is ahead of p so far -/
def laI (v w : Nat → Nat → Int) (P p i : Nat) (x : Int) : Prop := (∀ q, q < P → (w 36 q = 0 ∨ w 36 q = 1) ∧ (w 36 q = 1 ↔ ∃ t, t < i ∧ v 30 t = (p : Int) ∧ v 31 t = (q : Int))) ∧ x = onF (w 36) P 0
theorem lp_look {S p : Nat} {v : Nat → Nat → Int} (h : WOK v S P) : ∀ (n i : Nat) (w : Nat → Nat → Int) (x : Int), i + n = S → (∀ c, c ≠ 36 → w c = v c) → laI v w P p i x → ∃ w' x', qG L xs d CX10_lookAhead 12 [(2, 29), (0, (p : Int)), (0, x), (0, (i : Int))] [] (qS w) = some (some (0, x'), qS w') ∧ (∀ c, c ≠ 36 → w' c = v c) ∧ laI v w' P p S x'
  | 0, i, w, x, hi, hw, hI => by
    have e : i = S := by omega
    subst e
    refine ⟨w, x, ?_, hw, hI⟩
    have h8 : w 29 8 = (i : Int) := by rw [hw 29 (by decide)]; exact h.1
    rw [b_X10_lookAhead_12, if_neg (by omega), b_X10_lookAhead_65]
  | n + 1, i, w, x, hi, hw, hI => by
    obtain ⟨h1, h2, h3, h4, h5⟩ := h
    have h0 : WOK v S P := ⟨h1, h2, h3, h4, h5⟩
    obtain ⟨g1, g2, g3, g4⟩ := h5 i (by omega)
    have h8 : w 29 8 = (S : Int) := by rw [hw 29 (by decide)]; exact h1
    have c30 := hw 30 (by decide)
    have c31 := hw 31 (by decide)
    have hx : 0 ≤ x ∧ x ≤ (P : Int) := by
      rw [hI.2]
      exact onF_in P 0 (fun q _ hq => (hI.1 q (by omega)).1)
    obtain ⟨q, hq⟩ : ∃ q : Nat, v 31 i = (q : Int) := ⟨(v 31 i).toNat, by omega⟩
    have hqP : q < P := by omega
    have step : laI v w P p (i + 1) x → ∃ w' x', qG L xs d CX10_lookAhead 12 [(2, 29), (0, (p : Int)), (0, x), (0, ((i + 1 : Nat) : Int))] [] (qS w) = some (some (0, x'), qS w') ∧ (∀ c, c ≠ 36 → w' c = v c) ∧ laI v w' P p S x' := fun hh => lp_look h0 n (i + 1) w x (by omega) hw hh
    by_cases k1 : v 30 i = (p : Int)
    · have a1 : qG L xs d CX10_lookAhead 12 [(2, 29), (0, (p : Int)), (0, x), (0, (i : Int))] [] (qS w) = qG L xs d CX10_lookAhead 41 [(2, 29), (0, (p : Int)), (0, x), (0, (i : Int))] [(0, w 36 q)] (qS w) := by
        rw [b_X10_lookAhead_12, if_pos (by omega), b_X10_lookAhead_20, if_pos (by omega), Int.toNat_natCast, c30, b_X10_lookAhead_26, if_pos k1, b_X10_lookAhead_30, if_pos (by omega), Int.toNat_natCast, c31, hq, b_X10_lookAhead_40, if_pos (by omega), Int.toNat_natCast]
      by_cases k2 : w 36 q = 0
      · obtain ⟨w', x', e1, e2, e3⟩ := lp_look h0 n (i + 1) (pm_up w 36 q 1) (x + 1) (by omega) (fun c hc => (up_cell hc).trans (hw c hc)) (by
          refine ⟨fun r hr => ?_, ?_⟩
          · by_cases hrq : r = q
            · subst hrq
              rw [up_eq]
              exact ⟨Or.inr rfl, fun _ => ⟨i, by omega, k1, hq⟩, fun _ => rfl⟩
            · rw [up_ne (by omega)]
              have := hI.1 r hr
              refine ⟨this.1, ?_⟩
              rw [this.2]
              constructor
              · rintro ⟨t, t1, t2, t3⟩
                exact ⟨t, by omega, t2, t3⟩
              · rintro ⟨t, t1, t2, t3⟩
                by_cases hti : t = i
                · subst hti
                  omega
                · exact ⟨t, by omega, t2, t3⟩
          · rw [up_fn, onF_set, if_pos (by omega), hI.2, k2]
            omega)
        refine ⟨w', x', ?_, e2, e3⟩
        refine Eq.trans ?_ e1
        rw [a1, b_X10_lookAhead_41, if_pos k2, b_X10_lookAhead_44, if_pos (by omega), Int.toNat_natCast, c31, hq, b_X10_lookAhead_54, if_pos (by omega), Int.toNat_natCast, b_X10_lookAhead_56, w32_id (by omega) (by omega), b_X10_lookAhead_59, w32_id (by omega) (by omega)]
        rfl
      · obtain ⟨w', x', e1, e2, e3⟩ := step ⟨fun r hr => by
          have := hI.1 r hr
          refine ⟨this.1, ?_⟩
          rw [this.2]
          constructor
          · rintro ⟨t, t1, t2, t3⟩
            exact ⟨t, by omega, t2, t3⟩
          · rintro ⟨t, t1, t2, t3⟩
            by_cases hti : t = i
            · subst hti
              have hrq : r = q := by omega
              subst hrq
              refine this.2.mp ?_
              rcases this.1 with z | z
              · exact absurd z k2
              · exact z
            · exact ⟨t, by omega, t2, t3⟩, hI.2⟩
        refine ⟨w', x', ?_, e2, e3⟩
        refine Eq.trans ?_ e1
        rw [a1, b_X10_lookAhead_41, if_neg k2, b_X10_lookAhead_59, w32_id (by omega) (by omega)]
        rfl
    · obtain ⟨w', x', e1, e2, e3⟩ := step ⟨fun r hr => by
        have := hI.1 r hr
        refine ⟨this.1, ?_⟩
        rw [this.2]
        constructor
        · rintro ⟨t, t1, t2, t3⟩
          exact ⟨t, by omega, t2, t3⟩
        · rintro ⟨t, t1, t2, t3⟩
          by_cases hti : t = i
          · subst hti
            exact absurd t2 k1
          · exact ⟨t, by omega, t2, t3⟩, hI.2⟩
      refine ⟨w', x', ?_, e2, e3⟩
      refine Eq.trans ?_ e1
      rw [b_X10_lookAhead_12, if_pos (by omega), b_X10_lookAhead_20, if_pos (by omega), Int.toNat_natCast, c30, b_X10_lookAhead_26, if_neg k1, b_X10_lookAhead_59, w32_id (by omega) (by omega)]
      rfl
/-- who is ahead of p: 1, else 0 -/
def isF (T : Nat → Nat → Int → Prop) (P : Nat) (F : Nat → Nat → Int) : Prop := ∀ p q, p < P → q < P → (F p q = 0 ∨ F p q = 1) ∧ (F p q = 1 ↔ ∃ k, T p q k)
theorem c_lookAhead {S p : Nat} {F : Nat → Nat → Int} (h : WOK v S P) (hF : isF (EC v S (-1)) P F) (hp : p < P) : ∃ w, qE L xs (d + 2) nX10_lookAhead [(2, 29), (0, (p : Int))] (qS v) = some (some (0, onF (F p) P 0), qS w) ∧ (∀ c, c ≠ 36 → w c = v c) ∧ ∀ q, q < P → w 36 q = F p q := by
  have hu : ∀ c, c ≠ 36 → pm_fl v 36 0 60 0 c = v c := fun c hc => by
    funext i
    exact if_neg (fun q => hc q.1)
  have hP := h.2.2.2.1
  have hz : ∀ q, q < 60 → pm_fl v 36 0 60 0 36 q = 0 := fun q hq => if_pos (by omega)
  have r1 : qE L xs (d + 1) nJ7_fill_53178 [(2, 36), (0, 0)] (qS v) = some (none, qS (pm_fl v 36 0 60 0)) := q_fill (c := 36) (by decide) rfl (by decide) (nr_of rfl)
  obtain ⟨w, x, e1, e2, e3⟩ := lp_look (L := L) (xs := xs) (d := d + 1) (p := p) (v := pm_fl v 36 0 60 0) (S := S) (P := P) (by
    unfold WOK
    rw [hu 29 (by decide), hu 30 (by decide), hu 31 (by decide), hu 32 (by decide)]
    exact h) S 0 (pm_fl v 36 0 60 0) 0 (by omega) (fun _ _ => rfl) ⟨fun q hq => by
      rw [hz q (by omega)]
      exact ⟨Or.inl rfl, fun z => absurd z (by decide), fun ⟨t, ht, _⟩ => absurd ht (by omega)⟩, by
      rw [onF_cg (g := fun _ => 0) P 0 (fun q _ hq => hz q (by omega))]
      have : ∀ n j, onF (fun _ => (0 : Int)) n j = 0 := fun n => by
        induction n with
        | zero => intro j; rfl
        | succ n ih => intro j; unfold onF; rw [ih]; rfl
      rw [this]⟩
  have hw : ∀ q, q < P → w 36 q = F p q := fun q hq => by
    obtain ⟨a1, a2⟩ := e3.1 q hq
    obtain ⟨b1, b2⟩ := hF p q hp hq
    have ab : w 36 q = 1 ↔ F p q = 1 := by
      rw [a2, b2]
      constructor
      · rintro ⟨t, t1, t2, t3⟩
        rw [hu 30 (by decide)] at t2
        rw [hu 31 (by decide)] at t3
        exact ⟨v 32 t, t, t1, t2, t3, rfl, Or.inl rfl⟩
      · rintro ⟨k, t, t1, t2, t3, -⟩
        exact ⟨t, t1, by rw [hu 30 (by decide)]; exact t2, by rw [hu 31 (by decide)]; exact t3⟩
    rcases a1 with z | z
    · rcases b1 with y | y
      · rw [z, y]
      · have := ab.mpr y
        omega
    · rw [z, ab.mp z]
  refine ⟨w, ?_, fun c hc => (e2 c hc).trans (hu c hc), hw⟩
  rw [e_X10_lookAhead, b_X10_lookAhead_0, r1, qB_some, psh_none, b_X10_lookAhead_8]
  refine Eq.trans e1 ?_
  rw [e3.2, onF_cg P 0 (fun q _ hq => hw q (by omega))]
end DR
