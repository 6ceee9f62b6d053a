/-! JOINED: 65.drawn, 66.drawnb, 67.drawnc, 68.news, 69.newsb, 70.whence -/
section
/-! DRAWN: walks by draws -/
section DR
variable {L : Nat} {xs : Nat → Int} {d : Nat} {v : Nat → Nat → Int} {c : Nat → Nat → Nat → Int} {P : Nat}
theorem ush8 (z : Int) : 0 ≤ pm_ush z 8 := by
  unfold pm_ush
  have hb : (Int32.ofInt 8).toUInt32 &&& Int32.toUInt32 31 = 8 := by decide
  rw [hb]
  generalize (Int32.ofInt z).toUInt32 = u
  have h1 : (u >>> 8).toNat < 16777216 := by
    rw [UInt32.toNat_shiftRight, Nat.shiftRight_eq_div_pow]
    have := u.toNat_lt
    have e : 2 ^ (UInt32.toNat 8 % 32) = 256 := by decide
    rw [e]
    omega
  show 0 ≤ (u >>> 8).toBitVec.toInt
  rw [BitVec.toInt_eq_toNat_cond]
  have h2 : (u >>> 8).toBitVec.toNat = (u >>> 8).toNat := rfl
  rw [h2]
  split
  · omega
  · omega
/-- how many ones from j on; the k-th of them -/
def onF (f : Nat → Int) : Nat → Nat → Int
  | 0, _ => 0
  | n + 1, j => f j + onF f n (j + 1)
def kthF (f : Nat → Int) : Nat → Nat → Int → Nat
  | 0, j, _ => j
  | n + 1, j, k => if f j = 1 ∧ k = 0 then j else kthF f n (j + 1) (k - f j)
theorem onF_in {f : Nat → Int} : ∀ (n j : Nat), (∀ q, j ≤ q → q < j + n → f q = 0 ∨ f q = 1) → 0 ≤ onF f n j ∧ onF f n j ≤ (n : Int)
  | 0, j, h => ⟨Int.le_refl 0, Int.le_refl 0⟩
  | n + 1, j, h => by
    have ih := onF_in n (j + 1) (fun q h1 h2 => h q (by omega) (by omega))
    have := h j (by omega) (by omega)
    unfold onF
    omega
theorem onF_cg {f g : Nat → Int} : ∀ (n j : Nat), (∀ q, j ≤ q → q < j + n → f q = g q) → onF f n j = onF g n j
  | 0, j, h => rfl
  | n + 1, j, h => by
    unfold onF
    rw [h j (by omega) (by omega), onF_cg n (j + 1) (fun q h1 h2 => h q (by omega) (by omega))]
theorem onF_set {f : Nat → Int} {q : Nat} : ∀ (n j : Nat), onF (fun p => if p = q then 1 else f p) n j = onF f n j + (if j ≤ q ∧ q < j + n then 1 - f q else 0)
  | 0, j => by
    rw [if_neg (by omega)]
    rfl
  | n + 1, j => by
    have ih := onF_set (f := f) (q := q) n (j + 1)
    unfold onF
    rw [ih]
    by_cases h : j = q
    · subst h
      rw [if_pos rfl, if_neg (by omega), if_pos (by omega)]
      omega
    · rw [if_neg h]
      by_cases h2 : j + 1 ≤ q ∧ q < j + 1 + n
      · rw [if_pos h2, if_pos (by omega)]
        omega
      · rw [if_neg h2, if_neg (by omega)]
        omega
theorem kthF_in {f : Nat → Int} : ∀ (n j : Nat) (k : Int), (∀ q, j ≤ q → q < j + n → f q = 0 ∨ f q = 1) → 0 ≤ k → k < onF f n j → j ≤ kthF f n j k ∧ kthF f n j k < j + n
  | 0, j, k, h, h1, h2 => by
    unfold onF at h2
    omega
  | n + 1, j, k, h, h1, h2 => by
    unfold kthF
    unfold onF at h2
    by_cases g : f j = 1 ∧ k = 0
    · rw [if_pos g]; omega
    · rw [if_neg g]
      have hj := h j (by omega) (by omega)
      have ih := kthF_in n (j + 1) (k - f j) (fun q h1 h2 => h q (by omega) (by omega)) (by omega) (by omega)
      omega
theorem lp_aheadAt {f : Nat → Int} (x1 : Int) (h9 : v 29 9 = (P : Int)) (hP : P ≤ 60) (hf : ∀ q, q < P → v 36 q = f q) (h01 : ∀ q, q < P → f q = 0 ∨ f q = 1) : ∀ (n j : Nat) (k : Int), j + n = P → 0 ≤ k → k < onF f n j → qG L xs d CX10_aheadAt 4 [(2, 29), (0, x1), (0, k), (0, (j : Int))] [] (qS v) = some (some (0, (kthF f n j k : Int)), qS v)
  | 0, j, k, hj, h1, h2 => by
    unfold onF at h2
    omega
  | n + 1, j, k, hj, h1, h2 => by
    unfold onF at h2
    unfold kthF
    have hj2 := h01 j (by omega)
    have hk := onF_in (f := f) n (j + 1) (fun q h1 h2 => h01 q (by omega))
    rw [b_X10_aheadAt_4, if_pos (by omega), b_X10_aheadAt_12, if_pos (by omega), Int.toNat_natCast, hf j (by omega), b_X10_aheadAt_18]
    by_cases g : f j = 1
    · by_cases g2 : k = 0
      · rw [if_pos g, if_pos ⟨g, g2⟩, b_X10_aheadAt_22, if_pos g2, b_X10_aheadAt_26]
      · have ih := lp_aheadAt x1 h9 hP hf h01 n (j + 1) (k - f j) (by omega) (by omega) (by omega)
        rw [if_pos g, if_neg (fun q => g2 q.2), b_X10_aheadAt_22, if_neg g2, b_X10_aheadAt_28, w32_id (by omega) (by omega), b_X10_aheadAt_31, w32_id (by omega) (by omega), ← ih, show k + -1 = k - f j by omega]
        rfl
    · have ih := lp_aheadAt x1 h9 hP hf h01 n (j + 1) (k - f j) (by omega) (by omega) (by omega)
      rw [if_neg g, if_neg (fun q => g q.1), b_X10_aheadAt_31, w32_id (by omega) (by omega), ← ih, show k - f j = k by omega]
      rfl
theorem c_aheadAt {f : Nat → Int} {k : Int} (h9 : v 29 9 = (P : Int)) (hP : P ≤ 60) (hf : ∀ q, q < P → v 36 q = f q) (h01 : ∀ q, q < P → f q = 0 ∨ f q = 1) (h1 : 0 ≤ k) (h2 : k < onF f P 0) : qE L xs (d + 1) nX10_aheadAt [(2, 29), (0, k)] (qS v) = some (some (0, (kthF f P 0 k : Int)), qS v) := by
  rw [e_X10_aheadAt, b_X10_aheadAt_0]
  exact lp_aheadAt k h9 hP hf h01 P 0 k (by omega) h1 h2
/-- in front of the i-th step laid: who is ahead of p so far -/
def laI (v w : Nat → Nat → Int) (P p i : Nat) (x : Int) : Prop := (∀ q, q < P → (w 36 q = 0 ∨ w 36 q = 1) ∧ (w 36 q = 1 ↔ ∃ t, t < i ∧ v 30 t = (p : Int) ∧ v 31 t = (q : Int))) ∧ x = onF (w 36) P 0
theorem lp_look {S p : Nat} {v : Nat → Nat → Int} (h : WOK v S P) : ∀ (n i : Nat) (w : Nat → Nat → Int) (x : Int), i + n = S → (∀ c, c ≠ 36 → w c = v c) → laI v w P p i x → ∃ w' x', qG L xs d CX10_lookAhead 12 [(2, 29), (0, (p : Int)), (0, x), (0, (i : Int))] [] (qS w) = some (some (0, x'), qS w') ∧ (∀ c, c ≠ 36 → w' c = v c) ∧ laI v w' P p S x'
  | 0, i, w, x, hi, hw, hI => by
    have e : i = S := by omega
    subst e
    refine ⟨w, x, ?_, hw, hI⟩
    have h8 : w 29 8 = (i : Int) := by rw [hw 29 (by decide)]; exact h.1
    rw [b_X10_lookAhead_12, if_neg (by omega), b_X10_lookAhead_65]
  | n + 1, i, w, x, hi, hw, hI => by
    obtain ⟨h1, h2, h3, h4, h5⟩ := h
    have h0 : WOK v S P := ⟨h1, h2, h3, h4, h5⟩
    obtain ⟨g1, g2, g3, g4⟩ := h5 i (by omega)
    have h8 : w 29 8 = (S : Int) := by rw [hw 29 (by decide)]; exact h1
    have c30 := hw 30 (by decide)
    have c31 := hw 31 (by decide)
    have hx : 0 ≤ x ∧ x ≤ (P : Int) := by
      rw [hI.2]
      exact onF_in P 0 (fun q _ hq => (hI.1 q (by omega)).1)
    obtain ⟨q, hq⟩ : ∃ q : Nat, v 31 i = (q : Int) := ⟨(v 31 i).toNat, by omega⟩
    have hqP : q < P := by omega
    have step : laI v w P p (i + 1) x → ∃ w' x', qG L xs d CX10_lookAhead 12 [(2, 29), (0, (p : Int)), (0, x), (0, ((i + 1 : Nat) : Int))] [] (qS w) = some (some (0, x'), qS w') ∧ (∀ c, c ≠ 36 → w' c = v c) ∧ laI v w' P p S x' := fun hh => lp_look h0 n (i + 1) w x (by omega) hw hh
    by_cases k1 : v 30 i = (p : Int)
    · have a1 : qG L xs d CX10_lookAhead 12 [(2, 29), (0, (p : Int)), (0, x), (0, (i : Int))] [] (qS w) = qG L xs d CX10_lookAhead 41 [(2, 29), (0, (p : Int)), (0, x), (0, (i : Int))] [(0, w 36 q)] (qS w) := by
        rw [b_X10_lookAhead_12, if_pos (by omega), b_X10_lookAhead_20, if_pos (by omega), Int.toNat_natCast, c30, b_X10_lookAhead_26, if_pos k1, b_X10_lookAhead_30, if_pos (by omega), Int.toNat_natCast, c31, hq, b_X10_lookAhead_40, if_pos (by omega), Int.toNat_natCast]
      by_cases k2 : w 36 q = 0
      · obtain ⟨w', x', e1, e2, e3⟩ := lp_look h0 n (i + 1) (pm_up w 36 q 1) (x + 1) (by omega) (fun c hc => (up_cell hc).trans (hw c hc)) (by
          refine ⟨fun r hr => ?_, ?_⟩
          · by_cases hrq : r = q
            · subst hrq
              rw [up_eq]
              exact ⟨Or.inr rfl, fun _ => ⟨i, by omega, k1, hq⟩, fun _ => rfl⟩
            · rw [up_ne (by omega)]
              have := hI.1 r hr
              refine ⟨this.1, ?_⟩
              rw [this.2]
              constructor
              · rintro ⟨t, t1, t2, t3⟩
                exact ⟨t, by omega, t2, t3⟩
              · rintro ⟨t, t1, t2, t3⟩
                by_cases hti : t = i
                · subst hti
                  omega
                · exact ⟨t, by omega, t2, t3⟩
          · rw [up_fn, onF_set, if_pos (by omega), hI.2, k2]
            omega)
        refine ⟨w', x', ?_, e2, e3⟩
        refine Eq.trans ?_ e1
        rw [a1, b_X10_lookAhead_41, if_pos k2, b_X10_lookAhead_44, if_pos (by omega), Int.toNat_natCast, c31, hq, b_X10_lookAhead_54, if_pos (by omega), Int.toNat_natCast, b_X10_lookAhead_56, w32_id (by omega) (by omega), b_X10_lookAhead_59, w32_id (by omega) (by omega)]
        rfl
      · obtain ⟨w', x', e1, e2, e3⟩ := step ⟨fun r hr => by
          have := hI.1 r hr
          refine ⟨this.1, ?_⟩
          rw [this.2]
          constructor
          · rintro ⟨t, t1, t2, t3⟩
            exact ⟨t, by omega, t2, t3⟩
          · rintro ⟨t, t1, t2, t3⟩
            by_cases hti : t = i
            · subst hti
              have hrq : r = q := by omega
              subst hrq
              refine this.2.mp ?_
              rcases this.1 with z | z
              · exact absurd z k2
              · exact z
            · exact ⟨t, by omega, t2, t3⟩, hI.2⟩
        refine ⟨w', x', ?_, e2, e3⟩
        refine Eq.trans ?_ e1
        rw [a1, b_X10_lookAhead_41, if_neg k2, b_X10_lookAhead_59, w32_id (by omega) (by omega)]
        rfl
    · obtain ⟨w', x', e1, e2, e3⟩ := step ⟨fun r hr => by
        have := hI.1 r hr
        refine ⟨this.1, ?_⟩
        rw [this.2]
        constructor
        · rintro ⟨t, t1, t2, t3⟩
          exact ⟨t, by omega, t2, t3⟩
        · rintro ⟨t, t1, t2, t3⟩
          by_cases hti : t = i
          · subst hti
            exact absurd t2 k1
          · exact ⟨t, by omega, t2, t3⟩, hI.2⟩
      refine ⟨w', x', ?_, e2, e3⟩
      refine Eq.trans ?_ e1
      rw [b_X10_lookAhead_12, if_pos (by omega), b_X10_lookAhead_20, if_pos (by omega), Int.toNat_natCast, c30, b_X10_lookAhead_26, if_neg k1, b_X10_lookAhead_59, w32_id (by omega) (by omega)]
      rfl
/-- who is ahead of p: 1, else 0 -/
def isF (T : Nat → Nat → Int → Prop) (P : Nat) (F : Nat → Nat → Int) : Prop := ∀ p q, p < P → q < P → (F p q = 0 ∨ F p q = 1) ∧ (F p q = 1 ↔ ∃ k, T p q k)
theorem c_lookAhead {S p : Nat} {F : Nat → Nat → Int} (h : WOK v S P) (hF : isF (EC v S (-1)) P F) (hp : p < P) : ∃ w, qE L xs (d + 2) nX10_lookAhead [(2, 29), (0, (p : Int))] (qS v) = some (some (0, onF (F p) P 0), qS w) ∧ (∀ c, c ≠ 36 → w c = v c) ∧ ∀ q, q < P → w 36 q = F p q := by
  have hu : ∀ c, c ≠ 36 → pm_fl v 36 0 60 0 c = v c := fun c hc => by
    funext i
    exact if_neg (fun q => hc q.1)
  have hP := h.2.2.2.1
  have hz : ∀ q, q < 60 → pm_fl v 36 0 60 0 36 q = 0 := fun q hq => if_pos (by omega)
  have r1 : qE L xs (d + 1) nJ7_fill_53178 [(2, 36), (0, 0)] (qS v) = some (none, qS (pm_fl v 36 0 60 0)) := q_fill (c := 36) (by decide) rfl (by decide) (nr_of rfl)
  obtain ⟨w, x, e1, e2, e3⟩ := lp_look (L := L) (xs := xs) (d := d + 1) (p := p) (v := pm_fl v 36 0 60 0) (S := S) (P := P) (by
    unfold WOK
    rw [hu 29 (by decide), hu 30 (by decide), hu 31 (by decide), hu 32 (by decide)]
    exact h) S 0 (pm_fl v 36 0 60 0) 0 (by omega) (fun _ _ => rfl) ⟨fun q hq => by
      rw [hz q (by omega)]
      exact ⟨Or.inl rfl, fun z => absurd z (by decide), fun ⟨t, ht, _⟩ => absurd ht (by omega)⟩, by
      rw [onF_cg (g := fun _ => 0) P 0 (fun q _ hq => hz q (by omega))]
      have : ∀ n j, onF (fun _ => (0 : Int)) n j = 0 := fun n => by
        induction n with
        | zero => intro j; rfl
        | succ n ih => intro j; unfold onF; rw [ih]; rfl
      rw [this]⟩
  have hw : ∀ q, q < P → w 36 q = F p q := fun q hq => by
    obtain ⟨a1, a2⟩ := e3.1 q hq
    obtain ⟨b1, b2⟩ := hF p q hp hq
    have ab : w 36 q = 1 ↔ F p q = 1 := by
      rw [a2, b2]
      constructor
      · rintro ⟨t, t1, t2, t3⟩
        rw [hu 30 (by decide)] at t2
        rw [hu 31 (by decide)] at t3
        exact ⟨v 32 t, t, t1, t2, t3, rfl, Or.inl rfl⟩
      · rintro ⟨k, t, t1, t2, t3, -⟩
        exact ⟨t, t1, by rw [hu 30 (by decide)]; exact t2, by rw [hu 31 (by decide)]; exact t3⟩
    rcases a1 with z | z
    · rcases b1 with y | y
      · rw [z, y]
      · have := ab.mpr y
        omega
    · rw [z, ab.mp z]
  refine ⟨w, ?_, fun c hc => (e2 c hc).trans (hu c hc), hw⟩
  rw [e_X10_lookAhead, b_X10_lookAhead_0, r1, qB_some, psh_none, b_X10_lookAhead_8]
  refine Eq.trans e1 ?_
  rw [e3.2, onF_cg P 0 (fun q _ hq => hw q (by omega))]
end DR
end
section
/-! DRAWN: both answer, and alike -/
section DS
variable {L : Nat} {xs : Nat → Int} {d : Nat} {v : Nat → Nat → Int} {c : Nat → Nat → Nat → Int} {P : Nat}
def zN (z : Int) : Int := w32 (w32 (z * 1103515245) + 12345)
/-- where it is next -/
def nxF (F : Nat → Nat → Int) (P p : Nat) (z : Int) : Nat := if 0 < onF (F p) P 0 then kthF (F p) P 0 (Int.tmod (pm_ush z 8) (onF (F p) P 0)) else p
/-- place and draw behind i steps -/
def wkF (F : Nat → Nat → Int) (P a : Nat) (z : Int) : Nat → Nat × Int
  | 0 => (a, z)
  | i + 1 => (nxF F P (wkF F P a z i).1 (zN (wkF F P a z i).2), zN (wkF F P a z i).2)
/-- places that it was in, ahead of the i-th step -/
def wvF (F : Nat → Nat → Int) (P a : Nat) (z : Int) : Nat → Nat → Int
  | 0 => fun _ => 0
  | i + 1 => fun q => if q = (wkF F P a z i).1 then 1 else wvF F P a z i q
theorem wvF_01 (F : Nat → Nat → Int) (P a : Nat) (z : Int) : ∀ i q, wvF F P a z i q = 0 ∨ wvF F P a z i q = 1
  | 0, q => Or.inl rfl
  | i + 1, q => by
    show (if q = (wkF F P a z i).1 then (1 : Int) else wvF F P a z i q) = 0 ∨ (if q = (wkF F P a z i).1 then (1 : Int) else wvF F P a z i q) = 1
    by_cases h : q = (wkF F P a z i).1
    · rw [if_pos h]; exact Or.inr rfl
    · rw [if_neg h]; exact wvF_01 F P a z i q
theorem tm_in {x m : Int} (h : 0 ≤ x) (hm : 0 < m) : 0 ≤ Int.tmod x m ∧ Int.tmod x m < m := by
  rw [tm_pos m h]
  exact ⟨Int.emod_nonneg x (by omega), Int.emod_lt_of_pos x hm⟩
theorem nxF_in {T : Nat → Nat → Int → Prop} {F : Nat → Nat → Int} (hF : isF T P F) {p : Nat} (z : Int) (hp : p < P) : nxF F P p z < P := by
  unfold nxF
  by_cases h : 0 < onF (F p) P 0
  · have ht := tm_in (ush8 z) h
    rw [if_pos h]
    have := kthF_in (f := F p) P 0 _ (fun q _ hq => (hF p q hp (by omega)).1) ht.1 ht.2
    omega
  · rw [if_neg h]; exact hp
theorem wkF_in {T : Nat → Nat → Int → Prop} {F : Nat → Nat → Int} (hF : isF T P F) {a : Nat} (z : Int) (ha : a < P) : ∀ i, (wkF F P a z i).1 < P
  | 0 => ha
  | i + 1 => nxF_in hF _ (wkF_in hF z ha i)
theorem lp_walk {S a : Nat} {F : Nat → Nat → Int} {N : Nat} (x1 x2 : Int) {z : Int} (h : WOK v S P) (hF : isF (EC v S (-1)) P F) (ha : a < P) (hN : N ≤ 200) : ∀ (n i : Nat) (w : Nat → Nat → Int) (u7 : pm_V), i + n = N → (∀ c, c ≠ 36 → c ≠ 37 → w c = v c) → (∀ q, q < P → w 37 q = wvF F P a z i q) → ∃ w' w7, qG L xs (d + 2) CX10_walk 17 [(2, 29), (0, x1), (0, x2), (0, (N : Int)), (0, ((wkF F P a z i).1 : Int)), (0, (wkF F P a z i).2), (0, (i : Int)), u7] [] (qS w) = qG L xs (d + 2) CX10_walk 89 [(2, 29), (0, x1), (0, x2), (0, (N : Int)), (0, ((wkF F P a z N).1 : Int)), (0, (wkF F P a z N).2), (0, (N : Int)), w7] [] (qS w') ∧ (∀ c, c ≠ 36 → c ≠ 37 → w' c = v c) ∧ ∀ q, q < P → w' 37 q = wvF F P a z N q
  | 0, i, w, u7, hi, hw, hv => by
    have e : i = N := by omega
    subst e
    refine ⟨w, u7, ?_, hw, hv⟩
    rw [b_X10_walk_17, if_neg (by omega)]
  | n + 1, i, w, u7, hi, hw, hv => by
    have hP := h.2.2.2.1
    have hp := wkF_in hF z ha i
    have eN : wkF F P a z (i + 1) = (nxF F P (wkF F P a z i).1 (zN (wkF F P a z i).2), zN (wkF F P a z i).2) := rfl
    have eV : wvF F P a z (i + 1) = fun q => if q = (wkF F P a z i).1 then 1 else wvF F P a z i q := rfl
    generalize hpq : (wkF F P a z i).1 = p at hp eN eV ⊢
    generalize hzq : (wkF F P a z i).2 = y at eN ⊢
    have hW : ∀ w' : Nat → Nat → Int, (∀ c, c ≠ 36 → c ≠ 37 → w' c = v c) → WOK w' S P ∧ EC w' S (-1) = EC v S (-1) := fun w' hw' => by
      constructor
      · unfold WOK
        rw [hw' 29 (by decide) (by decide), hw' 30 (by decide) (by decide), hw' 31 (by decide) (by decide), hw' 32 (by decide) (by decide)]
        exact h
      · unfold EC
        rw [hw' 30 (by decide) (by decide), hw' 31 (by decide) (by decide), hw' 32 (by decide) (by decide), hw' 33 (by decide) (by decide)]
    have hu : ∀ c, c ≠ 36 → c ≠ 37 → pm_up w 37 p 1 c = v c := fun c h1 h2 => (up_cell h2).trans (hw c h1 h2)
    obtain ⟨w1, e1, e2, e3⟩ := c_lookAhead (L := L) (xs := xs) (d := d) (v := pm_up w 37 p 1) (F := F) (p := p) (hW _ hu).1 (by rw [(hW _ hu).2]; exact hF) hp
    have hu1 : ∀ c, c ≠ 36 → c ≠ 37 → w1 c = v c := fun c h1 h2 => (e2 c h1).trans (hu c h1 h2)
    have h37 : ∀ q, q < P → w1 37 q = wvF F P a z (i + 1) q := fun q hq => by
      rw [e2 37 (by decide), up_fn, eV]
      dsimp only
      rw [hv q hq]
    obtain ⟨w', w7, e4, e5⟩ := lp_walk x1 x2 (z := z) h hF ha hN n (i + 1) w1 (0, onF (F p) P 0) (by omega) hu1 h37
    refine ⟨w', w7, ?_, e5⟩
    rw [eN] at e4
    refine Eq.trans ?_ e4
    dsimp only
    rw [b_X10_walk_17, if_pos (by omega), b_X10_walk_23, c_isThere (hW _ hw).1, qB_some, psh_some, b_X10_walk_29, zb_0, if_pos (by omega), b_X10_walk_32, if_pos (by omega), Int.toNat_natCast, b_X10_walk_40, e1, qB_some, psh_some, b_X10_walk_57]
    show (if 0 < onF (F p) P 0 then qG L xs (d + 2) CX10_walk 64 [(2, 29), (0, x1), (0, x2), (0, (N : Int)), (0, (p : Int)), (0, zN y), (0, (i : Int)), (0, onF (F p) P 0)] [] (qS w1) else qG L xs (d + 2) CX10_walk 79 [(2, 29), (0, x1), (0, x2), (0, (N : Int)), (0, (p : Int)), (0, zN y), (0, (i : Int)), (0, onF (F p) P 0)] [] (qS w1)) = _
    unfold nxF
    by_cases g : 0 < onF (F p) P 0
    · have ht := tm_in (ush8 (zN y)) g
      rw [if_pos g, if_pos g, b_X10_walk_64, if_neg (by omega), b_X10_walk_73, c_aheadAt (hW _ hu1).1.2.2.1 hP e3 (fun q hq => (hF p q hp hq).1) ht.1 ht.2, qB_some, psh_some, b_X10_walk_76, b_X10_walk_81, w32_id (by omega) (by omega)]
      rfl
    · rw [if_neg g, if_neg g, b_X10_walk_79, b_X10_walk_81, w32_id (by omega) (by omega)]
      rfl
theorem c_walk {S a : Nat} {F : Nat → Nat → Int} {N : Nat} {z : Int} (h : WOK v S P) (hF : isF (EC v S (-1)) P F) (ha : a < P) (hN : N ≤ 200) : ∃ w, qE L xs (d + 3) nX10_walk [(2, 29), (0, (a : Int)), (0, z), (0, (N : Int))] (qS v) = some (some (0, ((wkF F P a z N).1 : Int)), qS w) ∧ (∀ c, c ≠ 36 → c ≠ 37 → w c = v c) ∧ ∀ q, q < P → w 37 q = wvF F P a z (N + 1) q := by
  have hP := h.2.2.2.1
  have hp := wkF_in hF z ha N
  have hu : ∀ c, c ≠ 36 → c ≠ 37 → pm_fl v 37 0 60 0 c = v c := fun c h1 h2 => by
    funext i
    exact if_neg (fun q => h2 q.1)
  have r1 : qE L xs (d + 2) nJ7_fill_53178 [(2, 37), (0, 0)] (qS v) = some (none, qS (pm_fl v 37 0 60 0)) := q_fill (c := 37) (by decide) rfl (by decide) (nr_of rfl)
  have hW : ∀ w' : Nat → Nat → Int, (∀ c, c ≠ 36 → c ≠ 37 → w' c = v c) → WOK w' S P := fun w' hw' => by
    unfold WOK
    rw [hw' 29 (by decide) (by decide), hw' 30 (by decide) (by decide), hw' 31 (by decide) (by decide), hw' 32 (by decide) (by decide)]
    exact h
  obtain ⟨w, w7, e1, e2, e3⟩ := lp_walk (L := L) (xs := xs) (d := d) (z := z) (F := F) (a : Int) z h hF ha hN N 0 (pm_fl v 37 0 60 0) (9, 0) (by omega) hu (fun q hq => if_pos (by omega))
  refine ⟨pm_up w 37 (wkF F P a z N).1 1, ?_, fun c h1 h2 => (up_cell h2).trans (e2 c h1 h2), fun q hq => ?_⟩
  · rw [e_X10_walk, b_X10_walk_0, r1, qB_some, psh_none, b_X10_walk_8]
    refine Eq.trans e1 ?_
    rw [b_X10_walk_89, c_isThere (hW _ e2), qB_some, psh_some, b_X10_walk_95, zb_0, if_pos (by omega), b_X10_walk_98, if_pos (by omega), Int.toNat_natCast, b_X10_walk_106]
  · rw [up_fn]
    show (if q = (wkF F P a z N).1 then (1 : Int) else w 37 q) = if q = (wkF F P a z N).1 then 1 else wvF F P a z N q
    rw [e3 q hq]
theorem lp_cwalk {f : Nat → Int} (h9 : v 29 9 = (P : Int)) (hP : P ≤ 60) (hf : ∀ q, q < P → v 37 q = f q) (h01 : ∀ q, f q = 0 ∨ f q = 1) : ∀ (n j : Nat) (x t : Int), j + n = P → 0 ≤ x → x + onF f n j = t → t ≤ 1000 → qG L xs d CX10_countWalked 4 [(2, 29), (0, x), (0, (j : Int))] [] (qS v) = some (some (0, t), qS v)
  | 0, j, x, t, hj, hx, ht, ht2 => by
    unfold onF at ht
    rw [b_X10_countWalked_4, if_neg (by omega), b_X10_countWalked_27, show x = t by omega]
  | n + 1, j, x, t, hj, hx, ht, ht2 => by
    unfold onF at ht
    have h1 := h01 j
    have h2 := onF_in (f := f) n (j + 1) (fun q _ _ => h01 q)
    have ih := lp_cwalk h9 hP hf h01 n (j + 1) (x + f j) t (by omega) (by omega) (by omega) ht2
    refine Eq.trans ?_ ih
    rw [b_X10_countWalked_4, if_pos (by omega), b_X10_countWalked_12, if_pos (by omega), Int.toNat_natCast, hf j (by omega), b_X10_countWalked_19, w32_id (by omega) (by omega), w32_id (by omega) (by omega)]
    rfl
theorem c_countWalked {f : Nat → Int} (h9 : v 29 9 = (P : Int)) (hP : P ≤ 60) (hf : ∀ q, q < P → v 37 q = f q) (h01 : ∀ q, f q = 0 ∨ f q = 1) : qE L xs (d + 1) nX10_countWalked [(2, 29)] (qS v) = some (some (0, onF f P 0), qS v) := by
  have h2 := onF_in (f := f) P 0 (fun q _ _ => h01 q)
  rw [e_X10_countWalked, b_X10_countWalked_0]
  exact lp_cwalk h9 hP hf h01 P 0 0 _ (by omega) (by omega) (by omega) (by omega)
end DS
end
section
/-! DRAWN: the reference's; both answer, and alike -/
section DT
variable {L : Nat} {xs : Nat → Int} {d : Nat} {v : Nat → Nat → Int} {c : Nat → Nat → Nat → Int} {P : Nat}
theorem lp_mclear (x1 x2 x3 x4 : Int) : ∀ (n j : Nat) (v : Nat → Nat → Int), j + n = 60 → (∀ q, q < j → v 81 q = 0) → ∃ v', qG L xs d CX12_drawn 41 [(2, 63), (0, x1), (0, x2), (0, x3), (0, x4), (0, (j : Int)), (9, 0), (9, 0), (9, 0), (9, 0), (9, 0), (9, 0)] [] (qS v) = qG L xs d CX12_drawn 62 [(2, 63), (0, x1), (0, x2), (0, x3), (0, x4), (0, 60), (9, 0), (9, 0), (9, 0), (9, 0), (9, 0), (9, 0)] [] (qS v') ∧ (∀ c, c ≠ 81 → v' c = v c) ∧ ∀ q, q < 60 → v' 81 q = 0
  | 0, j, v, hj, h => by
    have e : j = 60 := by omega
    subst e
    refine ⟨v, ?_, fun _ _ => rfl, h⟩
    rw [b_X12_drawn_41, if_neg (by omega)]
    rfl
  | n + 1, j, v, hj, h => by
    obtain ⟨v', e1, e2, e3⟩ := lp_mclear x1 x2 x3 x4 n (j + 1) (pm_up v 81 j 0) (by omega) (fun q hq => by
      by_cases hqj : q = j
      · rw [hqj, up_eq]
      · rw [up_ne (by omega)]
        exact h q (by omega))
    refine ⟨v', ?_, fun c hc => (e2 c hc).trans (up_cell hc), e3⟩
    refine Eq.trans ?_ e1
    rw [b_X12_drawn_41, if_pos (by omega), b_X12_drawn_48, if_pos (by omega), Int.toNat_natCast, b_X12_drawn_56, w32_id (by omega) (by omega)]
    rfl
/-- the steps out of p: 1, else 0 -/
def mF (v : Nat → Nat → Int) (F : Nat → Nat → Int) (P : Nat) : Prop := ∀ p q, p < P → q < P → (F p q = 0 ∨ F p q = 1) ∧ (F p q = 1 ↔ v 74 (60 * p + q) < 1000000)
theorem ix_m (s t : Nat) (hs : s < 100) (ht : t < 100) : w32 (w32 (60 * (s : Int)) + (t : Int)) = ((60 * s + t : Nat) : Int) := by
  rw [w32_id (z := 60 * (s : Int)) (by omega) (by omega), w32_id (by omega) (by omega)]
  omega
theorem lp_mcnt {F : Nat → Nat → Int} {p : Nat} (x1 x2 x3 x4 x5 x7 x8 : Int) (u11 : pm_V) (hP : P ≤ 60) (hp : p < P) (hY : 2 * v 64 140 = (P : Int)) (hF : mF v F P) : ∀ (n j : Nat) (x t : Int), j + n = P → 0 ≤ x → x + onF (F p) n j = t → t ≤ 1000 → qG L xs (d + 1) CX12_drawn 105 [(2, 63), (0, x1), (0, x2), (0, x3), (0, x4), (0, x5), (0, (p : Int)), (0, x7), (0, x8), (0, x), (0, (j : Int)), u11] [] (qS v) = qG L xs (d + 1) CX12_drawn 150 [(2, 63), (0, x1), (0, x2), (0, x3), (0, x4), (0, x5), (0, (p : Int)), (0, x7), (0, x8), (0, t), (0, (P : Int)), u11] [] (qS v)
  | 0, j, x, t, hj, hx, ht, ht2 => by
    unfold onF at ht
    rw [b_X12_drawn_105, c_yardMany, qB_some, psh_some, b_X12_drawn_112, w32_id (by omega) (by omega), if_neg (by omega), show x = t by omega, show j = P by omega]
  | n + 1, j, x, t, hj, hx, ht, ht2 => by
    unfold onF at ht
    have h1 := hF p j hp (by omega)
    have h2 := onF_in (f := F p) n (j + 1) (fun q _ hq => (hF p q hp (by omega)).1)
    have ih := lp_mcnt x1 x2 x3 x4 x5 x7 x8 u11 hP hp hY hF n (j + 1) (x + F p j) t (by omega) (by omega) (by omega) ht2
    refine Eq.trans ?_ ih
    rw [b_X12_drawn_105, c_yardMany, qB_some, psh_some, b_X12_drawn_112, w32_id (by omega) (by omega), if_pos (by omega), b_X12_drawn_116, ix_m p j (by omega) (by omega), if_pos (ix_r p j (by omega) (by omega)), Int.toNat_natCast, b_X12_drawn_131]
    by_cases g : v 74 (60 * p + j) < 1000000
    · have := h1.2.mpr g
      rw [if_pos g, b_X12_drawn_136, b_X12_drawn_141, this, w32_id (by omega) (by omega), w32_id (by omega) (by omega)]
      rfl
    · have : F p j = 0 := by
        rcases h1.1 with z | z
        · exact z
        · exact absurd (h1.2.mp z) g
      rw [if_neg g, b_X12_drawn_140, b_X12_drawn_141, this, w32_id (by omega) (by omega), w32_id (by omega) (by omega)]
      rfl
theorem lp_mkth {F : Nat → Nat → Int} {p : Nat} (x1 x2 x3 x4 x5 x7 x8 x9 : Int) (hP : P ≤ 60) (hp : p < P) (hF : mF v F P) : ∀ (n j : Nat) (k : Int), j + n = P → 0 ≤ k → k < onF (F p) n j → ∃ k', qG L xs d CX12_drawn 168 [(2, 63), (0, x1), (0, x2), (0, x3), (0, x4), (0, x5), (0, (p : Int)), (0, x7), (0, x8), (0, x9), (0, k), (0, (j : Int))] [] (qS v) = qG L xs d CX12_drawn 225 [(2, 63), (0, x1), (0, x2), (0, x3), (0, x4), (0, x5), (0, (p : Int)), (0, x7), (0, x8), (0, x9), (0, k'), (0, (kthF (F p) n j k : Int))] [] (qS v)
  | 0, j, k, hj, h1, h2 => by
    unfold onF at h2
    omega
  | n + 1, j, k, hj, h1, h2 => by
    unfold onF at h2
    unfold kthF
    have hj2 := hF p j hp (by omega)
    have hk := onF_in (f := F p) n (j + 1) (fun q _ hq => (hF p q hp (by omega)).1)
    have e0 := ix_m p j (by omega) (by omega)
    have er := ix_r p j (by omega) (by omega)
    by_cases g : F p j = 1
    · have g1 := hj2.2.mp g
      by_cases g2 : k = 0
      · refine ⟨k, ?_⟩
        rw [if_pos ⟨g, g2⟩, b_X12_drawn_168, e0, if_pos er, Int.toNat_natCast, b_X12_drawn_181, if_pos g1, b_X12_drawn_186, if_neg (by omega)]
      · obtain ⟨k', ih⟩ := lp_mkth x1 x2 x3 x4 x5 x7 x8 x9 hP hp hF n (j + 1) (k - F p j) (by omega) (by omega) (by omega)
        refine ⟨k', ?_⟩
        rw [if_neg (fun q => g2 q.2), ← ih, b_X12_drawn_168, e0, if_pos er, Int.toNat_natCast, b_X12_drawn_181, if_pos g1, b_X12_drawn_186, if_pos (by omega), b_X12_drawn_191, e0, if_pos er, Int.toNat_natCast, b_X12_drawn_206, if_pos g1, b_X12_drawn_211, b_X12_drawn_216, g, w32_id (by omega) (by omega), w32_id (by omega) (by omega)]
        rfl
    · have g0 : F p j = 0 := by
        rcases hj2.1 with z | z
        · exact z
        · exact absurd z g
      have g1 : ¬ v 74 (60 * p + j) < 1000000 := fun q => g (hj2.2.mpr q)
      obtain ⟨k', ih⟩ := lp_mkth x1 x2 x3 x4 x5 x7 x8 x9 hP hp hF n (j + 1) (k - F p j) (by omega) (by omega) (by omega)
      refine ⟨k', ?_⟩
      rw [if_neg (fun q => g q.1), ← ih, b_X12_drawn_168, e0, if_pos er, Int.toNat_natCast, b_X12_drawn_181, if_neg g1, b_X12_drawn_191, e0, if_pos er, Int.toNat_natCast, b_X12_drawn_206, if_neg g1, b_X12_drawn_215, b_X12_drawn_216, g0, w32_id (by omega) (by omega), w32_id (by omega) (by omega)]
      rfl
theorem lp_mdrawn {T : Nat → Nat → Int → Prop} {F : Nat → Nat → Int} {a N : Nat} {z : Int} (x1 x4 : Int) (hP : P ≤ 60) (hT : isF T P F) (hF : mF v F P) (hY : 2 * v 64 140 = (P : Int)) (ha : a < P) (hN : N ≤ 200) : ∀ (n i : Nat) (w : Nat → Nat → Int) (u9 u10 u11 : pm_V), i + n = N → (∀ c, c ≠ 81 → w c = v c) → (∀ q, q < P → w 81 q = wvF F P a z (i + 1) q) → ∃ w' w9 w10 w11, qG L xs (d + 1) CX12_drawn 81 [(2, 63), (0, x1), (0, z), (0, (N : Int)), (0, x4), (0, (wkF F P a z i).2), (0, ((wkF F P a z i).1 : Int)), (0, onF (wvF F P a z (i + 1)) P 0), (0, (i : Int)), u9, u10, u11] [] (qS w) = qG L xs (d + 1) CX12_drawn 263 [(2, 63), (0, x1), (0, z), (0, (N : Int)), (0, x4), (0, (wkF F P a z N).2), (0, ((wkF F P a z N).1 : Int)), (0, onF (wvF F P a z (N + 1)) P 0), (0, (N : Int)), w9, w10, w11] [] (qS w') ∧ ∀ c, c ≠ 81 → w' c = v c
  | 0, i, w, u9, u10, u11, hi, hw, hv => by
    have e : i = N := by omega
    subst e
    refine ⟨w, u9, u10, u11, ?_, hw⟩
    rw [b_X12_drawn_81, if_neg (by omega)]
  | n + 1, i, w, u9, u10, u11, hi, hw, hv => by
    have hp := wkF_in hT z ha i
    have h01 := wvF_01 F P a z (i + 1)
    have hin := onF_in (f := wvF F P a z (i + 1)) P 0 (fun q _ _ => h01 q)
    have eN : wkF F P a z (i + 1) = (nxF F P (wkF F P a z i).1 (zN (wkF F P a z i).2), zN (wkF F P a z i).2) := rfl
    have eV : wvF F P a z (i + 1 + 1) = fun q => if q = (wkF F P a z (i + 1)).1 then 1 else wvF F P a z (i + 1) q := rfl
    have eW : wvF F P a z (i + 1) (wkF F P a z i).1 = 1 := if_pos rfl
    generalize hpq : (wkF F P a z i).1 = p at hp eN eW ⊢
    generalize hzq : (wkF F P a z i).2 = y at eN ⊢
    have h74 : w 74 = v 74 := hw 74 (by decide)
    have h64 : w 64 = v 64 := hw 64 (by decide)
    have hFw : mF w F P := by unfold mF; rw [h74]; exact hF
    have hYw : 2 * w 64 140 = (P : Int) := by rw [h64]; exact hY
    have l1 := lp_mcnt (L := L) (xs := xs) (d := d) (v := w) (F := F) (p := p) x1 z (N : Int) x4 (zN y) (onF (wvF F P a z (i + 1)) P 0) (i : Int) u11 hP hp hYw hFw P 0 0 (onF (F p) P 0) (by omega) (by omega) (by omega) (by have := onF_in (f := F p) P 0 (fun q _ hq => (hT p q hp (by omega)).1); omega)
    have a1 : qG L xs (d + 1) CX12_drawn 81 [(2, 63), (0, x1), (0, z), (0, (N : Int)), (0, x4), (0, y), (0, (p : Int)), (0, onF (wvF F P a z (i + 1)) P 0), (0, (i : Int)), u9, u10, u11] [] (qS w) = qG L xs (d + 1) CX12_drawn 150 [(2, 63), (0, x1), (0, z), (0, (N : Int)), (0, x4), (0, zN y), (0, (p : Int)), (0, onF (wvF F P a z (i + 1)) P 0), (0, (i : Int)), (0, onF (F p) P 0), (0, (P : Int)), u11] [] (qS w) := by
      rw [b_X12_drawn_81, if_pos (by omega), b_X12_drawn_87]
      exact l1
    by_cases g : 0 < onF (F p) P 0
    · have ht := tm_in (ush8 (zN y)) g
      obtain ⟨k', l2⟩ := lp_mkth (L := L) (xs := xs) (d := d + 1) (v := w) (F := F) (p := p) x1 z (N : Int) x4 (zN y) (onF (wvF F P a z (i + 1)) P 0) (i : Int) (onF (F p) P 0) hP hp hFw P 0 _ (by omega) ht.1 ht.2
      have eq : nxF F P p (zN y) = kthF (F p) P 0 (Int.tmod (pm_ush (zN y) 8) (onF (F p) P 0)) := if_pos g
      have hq : kthF (F p) P 0 (Int.tmod (pm_ush (zN y) 8) (onF (F p) P 0)) < P := by
        have := kthF_in (f := F p) P 0 _ (fun q _ hq => (hT p q hp (by omega)).1) ht.1 ht.2
        omega
      rw [← eq] at l2 hq
      rw [eN] at eV
      dsimp only at eV
      generalize nxF F P p (zN y) = q at eN eV l2 hq
      have hw1 : ∀ c, c ≠ 81 → pm_up w 81 q 1 c = v c := fun c hc => (up_cell hc).trans (hw c hc)
      obtain ⟨w', w9, w10, w11, e1, e2⟩ := lp_mdrawn x1 x4 hP hT hF hY ha hN n (i + 1) (pm_up w 81 q 1) (0, onF (F p) P 0) (0, k') (0, (q : Int)) (by omega) hw1 (fun r hr => by
        rw [up_fn, eV]
        dsimp only
        rw [hv r hr])
      refine ⟨w', w9, w10, w11, ?_, e2⟩
      rw [eN, eV, onF_set, if_pos (by omega)] at e1
      refine Eq.trans ?_ e1
      dsimp only
      rw [a1, b_X12_drawn_150, if_pos g, b_X12_drawn_155, if_neg (by omega), b_X12_drawn_163]
      refine Eq.trans l2 ?_
      rw [b_X12_drawn_225, if_pos (by omega), Int.toNat_natCast, hv q hq, b_X12_drawn_238]
      have h01q := h01 q
      rcases h01q with z0 | z0
      · rw [if_pos z0, b_X12_drawn_245, b_X12_drawn_246, if_pos (by omega), Int.toNat_natCast, b_X12_drawn_257, w32_id (by omega) (by omega), w32_id (by omega) (by omega), z0]
        rfl
      · rw [if_neg (by omega), b_X12_drawn_241, b_X12_drawn_246, if_pos (by omega), Int.toNat_natCast, b_X12_drawn_257, w32_id (by omega) (by omega), w32_id (by omega) (by omega), z0]
        rfl
    · have eq : nxF F P p (zN y) = p := if_neg g
      rw [eq] at eN
      have eV2 : wvF F P a z (i + 1 + 1) = wvF F P a z (i + 1) := by
        rw [eV, eN]
        funext r
        dsimp only
        by_cases hr : r = p
        · rw [if_pos hr, hr, eW]
        · rw [if_neg hr]
      obtain ⟨w', w9, w10, w11, e1, e2⟩ := lp_mdrawn x1 x4 hP hT hF hY ha hN n (i + 1) w (0, onF (F p) P 0) (0, (P : Int)) u11 (by omega) hw (by rw [eV2]; exact hv)
      refine ⟨w', w9, w10, w11, ?_, e2⟩
      rw [eN, eV2] at e1
      refine Eq.trans ?_ e1
      dsimp only
      rw [a1, b_X12_drawn_150, if_neg g, b_X12_drawn_257, w32_id (by omega) (by omega)]
      rfl
theorem op_drawn (hz : Wz L xs v c) (a z n w : Int) : opW L xs d v nX11_drawn nX12_drawn [(0, a), (0, z), (0, n), (0, w)] := by
  have hz0 := hz
  obtain ⟨hW, hC, hM, hN, h5, h6, h7⟩ := hz
  have hW0 := hW
  obtain ⟨q1, -⟩ := hW0
  have k1 := hC.1.1
  obtain ⟨P, hP⟩ : ∃ P : Nat, 2 * v 11 0 = (P : Int) := ⟨(2 * v 11 0).toNat, by omega⟩
  by_cases g : (0 ≤ a ∧ a < 2 * v 11 0) ∧ (1 ≤ n ∧ n ≤ 200) ∧ 0 ≤ w ∧ w ≤ 1
  · obtain ⟨s, rfl⟩ : ∃ s : Nat, a = (s : Int) := ⟨a.toNat, by omega⟩
    obtain ⟨N, rfl⟩ : ∃ N : Nat, n = (N : Int) := ⟨n.toNat, by omega⟩
    have hs : s < P := by omega
    have hP60 : P ≤ 60 := by omega
    obtain ⟨v1, S, e1, e2, e3⟩ := c_lay (L := L) (xs := xs) (d := d + 89) hW hP hM
    have hE := EC_all hW e3
    obtain ⟨F, hF⟩ : ∃ F : Nat → Nat → Int, isF (SG v c (-1) (-1) (-1)) P F := by
      refine ⟨fun p q => @ite Int (∃ k, SG v c (-1) (-1) (-1) p q k) (Classical.propDecidable _) 1 0, fun p q _ _ => ?_⟩
      dsimp only
      by_cases h : ∃ k, SG v c (-1) (-1) (-1) p q k
      · rw [if_pos h]
        exact ⟨Or.inr rfl, fun _ => h, fun _ => rfl⟩
      · rw [if_neg h]
        exact ⟨Or.inl rfl, fun q => absurd q (by decide), fun q => absurd q h⟩
    obtain ⟨v2, e4, e5, e6⟩ := c_walk (L := L) (xs := xs) (d := d + 96) (F := F) (z := z) e3.1 (by rw [hE]; exact hF) hs (show N ≤ 200 by omega)
    have f2 : fW v v2 := fW_t e2 (fW_own (fun c hc => e5 c (by omega) (by omega)))
    obtain ⟨hW2, hC2, hM2, hN2, h52, h62, h72⟩ := Wz_W f2 hz0
    have h9 : v2 29 9 = (P : Int) := by rw [e5 29 (by decide) (by decide)]; exact e3.1.2.2.1
    have c11 : v2 11 0 = v 11 0 := by rw [fW_c f2 (c := 11) (by omega)]
    have k2 := hC2.1.1
    obtain ⟨v3, f1, f3, f4⟩ := m_asks (L := L) (xs := xs) (d := d + 7) hW2 hC2 hN2 h52 h62 h72 (by omega)
    rw [SG_W f2] at f4
    have k3 : 2 * v3 64 140 = (P : Int) := by rw [fN_c (fA_N f3) (c := 64) (by omega)]; omega
    obtain ⟨v4, f5, f6, f7⟩ := lp_mclear (L := L) (xs := xs) (d := d + 99) (s : Int) z (N : Int) w 60 0 v3 (by omega) (fun q hq => absurd hq (by omega))
    have mF4 : mF (pm_up v4 81 s 1) F P := fun p q hp hq => by
      obtain ⟨b1, b2⟩ := hF p q hp hq
      refine ⟨b1, ?_⟩
      rw [b2, up_cell (by decide), f6 74 (by decide)]
      constructor
      · rintro ⟨k, hk⟩
        have := f4.2.1 p q k hk
        have := f4.2.2 p q k hk
        omega
      · intro hlt
        rcases f4.1 p q (by omega) (by omega) with y | y
        · omega
        · exact ⟨_, y⟩
    have k4 : 2 * pm_up v4 81 s 1 64 140 = (P : Int) := by rw [up_cell (by decide), f6 64 (by decide)]; exact k3
    have hw0 : wvF F P s z 1 = fun q => if q = s then 1 else 0 := rfl
    have on0 : onF (wvF F P s z 1) P 0 = 1 := by
      have z0 : onF (fun _ => (0 : Int)) P 0 = 0 := by
        have : ∀ n j, onF (fun _ => (0 : Int)) n j = 0 := fun n => by
          induction n with
          | zero => intro j; rfl
          | succ n ih => intro j; unfold onF; rw [ih]; rfl
        exact this P 0
      rw [hw0, onF_set (f := fun _ => (0 : Int)), z0, if_pos (by omega)]
      rfl
    obtain ⟨v5, x9, x10, x11, f8, f9⟩ := lp_mdrawn (L := L) (xs := xs) (d := d + 98) (v := pm_up v4 81 s 1) (T := SG v c (-1) (-1) (-1)) (F := F) (a := s) (N := N) (z := z) (s : Int) w hP60 hF mF4 k4 hs (by omega) N 0 (pm_up v4 81 s 1) (9, 0) (9, 0) (9, 0) (by omega) (fun _ _ => rfl) (fun q hq => by
      rw [hw0, up_fn]
      dsimp only
      rw [f7 q (by omega)])
    rw [show (0 : Nat) + 1 = 1 from rfl, on0] at f8
    have fin : fP v2 v5 := by
      have t1 : fP v2 v3 := fA_P f3
      have t2 : ∀ c, c ≠ 81 → v5 c = v3 c := fun c hc => (f9 c hc).trans ((up_cell hc).trans (f6 c hc))
      exact fP_t t1 ⟨⟨fun c hc => t2 c (by omega), fun k _ => by rw [t2 63 (by decide)]⟩, by rw [t2 63 (by decide)], by rw [t2 63 (by decide)], by rw [t2 63 (by decide)]⟩
    have cw := c_countWalked (L := L) (xs := xs) (d := d + 98) (v := v2) (f := wvF F P s z (N + 1)) h9 hP60 e6 (wvF_01 F P s z (N + 1))
    refine ⟨if w = 0 then ((wkF F P s z N).1 : Int) else onF (wvF F P s z (N + 1)) P 0, v2, v5, ?_, f2, ?_, fin⟩
    · rw [e_X11_drawn, b_X11_drawn_0, c_hasPlace (by omega) (by omega), qB_some, psh_some, b_X11_drawn_8, zb_0, if_pos g.1, b_X11_drawn_11, if_neg (by omega), b_X11_drawn_16, if_neg (by omega), b_X11_drawn_23, if_neg (by omega), b_X11_drawn_28, if_neg (by omega), b_X11_drawn_36, e1, qB_some, psh_none, b_X11_drawn_51, e4, qB_some, psh_some, b_X11_drawn_61]
      by_cases w0 : w = 0
      · rw [if_pos w0, if_pos w0, b_X11_drawn_68, b_X11_drawn_80]
      · rw [if_neg w0, if_neg w0, b_X11_drawn_73, cw, qB_some, psh_some, b_X11_drawn_80]
    · rw [e_X12_drawn, b_X12_drawn_0, c_isPlace (by omega) (by omega), qB_some, psh_some, b_X12_drawn_6, zb_0, if_pos (by omega), b_X12_drawn_9, c_within, qB_some, psh_some, b_X12_drawn_18, zb_0, if_pos (by omega), b_X12_drawn_21, c_within, qB_some, psh_some, b_X12_drawn_29, zb_0, if_pos (by omega), b_X12_drawn_34, f1, qB_some, psh_none, b_X12_drawn_38]
      refine Eq.trans f5 ?_
      rw [b_X12_drawn_62, if_pos (by omega), Int.toNat_natCast, b_X12_drawn_78]
      refine Eq.trans f8 ?_
      rw [b_X12_drawn_263]
      by_cases w0 : w = 0
      · rw [if_pos w0, if_pos w0, b_X12_drawn_268, b_X12_drawn_275]
      · rw [if_neg w0, if_neg w0, b_X12_drawn_273, b_X12_drawn_275]
  · refine opW_no (r := -1) ?_ ?_
    · rw [e_X11_drawn, b_X11_drawn_0, c_hasPlace (by omega) (by omega), qB_some, psh_some, b_X11_drawn_8, zb_0]
      by_cases g1 : 0 ≤ a ∧ a < 2 * v 11 0
      · rw [if_pos g1, b_X11_drawn_11]
        by_cases g2 : n < 1
        · rw [if_pos g2, b_X11_drawn_34]
        · rw [if_neg g2, b_X11_drawn_16]
          by_cases g3 : 200 < n
          · rw [if_pos g3, b_X11_drawn_34]
          · rw [if_neg g3, b_X11_drawn_23]
            by_cases g4 : w < 0
            · rw [if_pos g4, b_X11_drawn_34]
            · rw [if_neg g4, b_X11_drawn_28, if_pos (by omega), b_X11_drawn_34]
      · rw [if_neg g1, b_X11_drawn_34]
    · rw [e_X12_drawn, b_X12_drawn_0, c_isPlace (by omega) (by omega), qB_some, psh_some, b_X12_drawn_6, zb_0, k1]
      by_cases g1 : 0 ≤ a ∧ a < 2 * v 11 0
      · rw [if_pos g1, b_X12_drawn_9, c_within, qB_some, psh_some, b_X12_drawn_18, zb_0]
        by_cases g2 : 1 ≤ n ∧ n ≤ 200
        · rw [if_pos g2, b_X12_drawn_21, c_within, qB_some, psh_some, b_X12_drawn_29, zb_0, if_neg (by omega), b_X12_drawn_32]
        · rw [if_neg g2, b_X12_drawn_32]
      · rw [if_neg g1, b_X12_drawn_32]
end DT
end
section
/-! NEWS: when it is heard; the least way of a ladder -/
section NW
variable {L : Nat} {xs : Nat → Int} {d : Nat} {v : Nat → Nat → Int} {P : Nat}
def aD (x y : Nat) : Int := if x ≤ y then (y : Int) - (x : Int) else (x : Int) - (y : Int)
theorem abs_aD (x y : Nat) (hx : x < 100) (hy : y < 100) : pm_abs (w32 ((x : Int) - (y : Int))) = aD x y := by
  rw [w32_id (by omega) (by omega)]
  unfold pm_abs aD
  by_cases h : 0 ≤ (x : Int) - (y : Int)
  · rw [if_pos h]
    split <;> omega
  · rw [if_neg h, if_pos (by omega), w32_id (by omega) (by omega)]
    omega
theorem mul_b {x t : Int} (h1 : 0 ≤ x) (h2 : x ≤ 58) (h3 : 1 ≤ t) (h4 : t ≤ 30) : 0 ≤ x * t ∧ x * t ≤ 1740 := by
  have a := Int.mul_nonneg h1 (show 0 ≤ t by omega)
  have b := Int.mul_le_mul h2 h4 (show 0 ≤ t by omega) (show (0 : Int) ≤ 58 by decide)
  omega
theorem aD_in (x y : Nat) (hx : x < 30) (hy : y < 30) : 0 ≤ aD x y ∧ aD x y ≤ 29 := by
  unfold aD
  split <;> omega
theorem aD_self (x : Nat) : aD x x = 0 := by
  unfold aD
  rw [if_pos (Nat.le_refl x)]
  omega
theorem aD_tri (x y z : Nat) : aD x z ≤ aD x y + aD y z := by
  unfold aD
  split <;> split <;> split <;> omega
theorem aD_next (x y : Nat) : aD x (y + 1) ≤ aD x y + 1 ∧ aD x y ≤ aD x (y + 1) + 1 := by
  unfold aD
  split <;> split <;> omega
def hL (th : Nat → Int) (tl : Int) (p q : Nat) : Nat → Int
  | 0 => aD p q * tl + th p
  | y + 1 => pm_min (hL th tl p q y) ((aD p y + aD y q) * tl + th y)
def hN (th : Nat → Int) (tl : Int) (Y a b : Nat) : Int := if a % 2 = b % 2 then aD (a / 2) (b / 2) * tl else hL th tl (a / 2) (b / 2) Y
theorem hL_le (th : Nat → Int) (tl : Int) (p q : Nat) : ∀ j y, y < j → hL th tl p q j ≤ (aD p y + aD y q) * tl + th y
  | 0, y, h => absurd h (by omega)
  | j + 1, y, h => by
    have m := mn_le (hL th tl p q j) ((aD p j + aD j q) * tl + th j)
    show pm_min (hL th tl p q j) ((aD p j + aD j q) * tl + th j) ≤ _
    by_cases hy : y = j
    · subst hy
      exact m.2.1
    · have := hL_le th tl p q j y (by omega)
      omega
theorem hL_is (th : Nat → Int) (tl : Int) {p q Y : Nat} (hp : p < Y) : ∀ j, j ≤ Y → ∃ y, y < Y ∧ hL th tl p q j = (aD p y + aD y q) * tl + th y
  | 0, _ => ⟨p, hp, by
    rw [aD_self, Int.zero_add]
    rfl⟩
  | j + 1, hj => by
    have m := mn_le (hL th tl p q j) ((aD p j + aD j q) * tl + th j)
    rcases m.2.2 with h | h
    · obtain ⟨y, h1, h2⟩ := hL_is th tl hp j (by omega)
      exact ⟨y, h1, h.trans h2⟩
    · exact ⟨j, by omega, h⟩
/-- the ladder -/
def nT (th : Nat → Int) (tl : Int) (Y : Nat) (a b : Nat) (k : Int) : Prop := (∃ y, y < Y ∧ thr y a b ∧ k = th y) ∨ ((b = a + 2 ∨ a = b + 2) ∧ a < 2 * Y ∧ b < 2 * Y ∧ k = tl)
theorem nT_ok {th : Nat → Int} {tl : Int} {Y : Nat} (hth : ∀ y, y < Y → 1 ≤ th y ∧ th y ≤ 9) (htl : 1 ≤ tl ∧ tl ≤ 30) : Okg (nT th tl Y) (2 * Y) 99 := fun a b k he => by
  rcases he with ⟨y, h1, h2, h3⟩ | ⟨h1, h2, h3, h4⟩
  · have := hth y h1
    unfold thr at h2
    omega
  · omega
/-- along a side -/
theorem nT_up {th : Nat → Int} {tl : Int} {Y : Nat} (x : Nat) : ∀ n, x + 2 * n < 2 * Y → Wk (nT th tl Y) n x (x + 2 * n) ((n : Int) * tl)
  | 0, _ => by
    rw [show ((0 : Nat) : Int) * tl = 0 by rw [show ((0 : Nat) : Int) = 0 from rfl, Int.zero_mul]]
    exact Wk_0 x
  | n + 1, h => by
    have ih := nT_up (th := th) (tl := tl) (Y := Y) x n (by omega)
    have := Wk_snoc ih (Or.inr ⟨Or.inl rfl, by omega, by omega, rfl⟩ : nT th tl Y (x + 2 * n) (x + 2 * n + 2) tl)
    rw [show x + 2 * (n + 1) = x + 2 * n + 2 by omega, show ((n + 1 : Nat) : Int) * tl = (n : Int) * tl + tl by rw [show ((n + 1 : Nat) : Int) = (n : Int) + 1 by omega, Int.add_mul, Int.one_mul]]
    exact this
theorem nT_sym {th : Nat → Int} {tl : Int} {Y : Nat} (a b : Nat) (k : Int) (h : nT th tl Y a b k) : nT th tl Y b a k := by
  rcases h with ⟨y, h1, h2, h3⟩ | ⟨h1, h2, h3, h4⟩
  · refine Or.inl ⟨y, h1, ?_, h3⟩
    unfold thr at h2 ⊢
    omega
  · exact Or.inr ⟨by omega, h3, h2, h4⟩
theorem nT_dn {th : Nat → Int} {tl : Int} {Y n p q : Nat} {w : Int} (h : Wk (nT th tl Y) n p q w) : Wk (nT th tl Y) n q p w := Wk_rev (Wk_mono (fun a b k he => nT_sym a b k he) h)
theorem nT_along {th : Nat → Int} {tl : Int} {Y : Nat} (a b : Nat) (ha : a < 2 * Y) (hb : b < 2 * Y) (hs : a % 2 = b % 2) : ∃ n, Wk (nT th tl Y) n a b (aD (a / 2) (b / 2) * tl) := by
  by_cases h : a ≤ b
  · have := nT_up (th := th) (tl := tl) (Y := Y) a ((b - a) / 2) (by omega)
    rw [show a + 2 * ((b - a) / 2) = b by omega] at this
    refine ⟨(b - a) / 2, ?_⟩
    have e : aD (a / 2) (b / 2) = (((b - a) / 2 : Nat) : Int) := by
      unfold aD
      rw [if_pos (by omega)]
      omega
    rw [e]
    exact this
  · have := nT_up (th := th) (tl := tl) (Y := Y) b ((a - b) / 2) (by omega)
    rw [show b + 2 * ((a - b) / 2) = a by omega] at this
    refine ⟨(a - b) / 2, ?_⟩
    have e : aD (a / 2) (b / 2) = (((a - b) / 2 : Nat) : Int) := by
      unfold aD
      rw [if_neg (by omega)]
      omega
    rw [e]
    exact nT_dn this
theorem hN_in {th : Nat → Int} {tl : Int} {Y a b : Nat} (hY : Y ≤ 30) (hth : ∀ y, y < Y → 1 ≤ th y ∧ th y ≤ 9) (htl : 1 ≤ tl ∧ tl ≤ 30) (ha : a < 2 * Y) (hb : b < 2 * Y) : 0 ≤ hN th tl Y a b ∧ hN th tl Y a b ≤ 1749 := by
  unfold hN
  by_cases h : a % 2 = b % 2
  · rw [if_pos h]
    have h1 := aD_in (a / 2) (b / 2) (by omega) (by omega)
    have := mul_b h1.1 (by omega) htl.1 htl.2
    omega
  · rw [if_neg h]
    obtain ⟨y, h1, h2⟩ := hL_is th tl (p := a / 2) (q := b / 2) (Y := Y) (by omega) Y (Nat.le_refl Y)
    rw [h2]
    have a1 := aD_in (a / 2) y (by omega) (by omega)
    have a2 := aD_in y (b / 2) (by omega) (by omega)
    have := mul_b (x := aD (a / 2) y + aD y (b / 2)) (by omega) (by omega) htl.1 htl.2
    have := hth y h1
    omega
theorem mul_mono {x y t : Int} (h : x ≤ y) (ht : 1 ≤ t) : x * t ≤ y * t := Int.mul_le_mul_of_nonneg_right h (by omega)
theorem mul_mono1 {x y t : Int} (h : x ≤ y + 1) (ht : 1 ≤ t) : x * t ≤ y * t + t := by
  have := mul_mono h ht
  rw [Int.add_mul, Int.one_mul] at this
  exact this
/-- the closed form is the least way -/
theorem hN_Lst {th : Nat → Int} {tl : Int} {Y a b : Nat} (hY : Y ≤ 30) (hth : ∀ y, y < Y → 1 ≤ th y ∧ th y ≤ 9) (htl : 1 ≤ tl ∧ tl ≤ 30) (ha : a < 2 * Y) (hb : b < 2 * Y) : Lst (nT th tl Y) a b 9999 (hN th tl Y a b) := by
  have hin : ∀ b, b < 2 * Y → 0 ≤ hN th tl Y a b ∧ hN th tl Y a b ≤ 1749 := fun b hb => hN_in hY hth htl ha hb
  have same : ∀ b, a % 2 = b % 2 → hN th tl Y a b = aD (a / 2) (b / 2) * tl := fun b h => if_pos h
  have other : ∀ b, ¬ a % 2 = b % 2 → b < 2 * Y → (∀ y, y < Y → hN th tl Y a b ≤ (aD (a / 2) y + aD y (b / 2)) * tl + th y) ∧ ∃ y, y < Y ∧ hN th tl Y a b = (aD (a / 2) y + aD y (b / 2)) * tl + th y := fun b h hb => by
    have e : hN th tl Y a b = hL th tl (a / 2) (b / 2) Y := if_neg h
    rw [e]
    exact ⟨fun y hy => hL_le th tl _ _ Y y hy, hL_is th tl (by omega) Y (Nat.le_refl Y)⟩
  refine IsD_Lst (nT_ok hth htl) (by omega) ha hb (by decide) (m := hN th tl Y a) ⟨?_, fun p q k he hp => ?_, fun p hp hm => ?_, fun p hp => ?_⟩
  · rw [same a rfl, aD_self, Int.zero_mul]
  · have ho := nT_ok hth htl p q k he
    rcases he with ⟨y, h1, h2, h3⟩ | ⟨h1, h2, h3, h4⟩
    · have hyp : p / 2 = y ∧ q / 2 = y ∧ p % 2 ≠ q % 2 := by
        unfold thr at h2
        omega
      by_cases s : a % 2 = p % 2
      · have o := other q (by omega) ho.2.1
        have := o.1 y h1
        rw [hyp.2.1, aD_self, Int.add_zero] at this
        rw [same p s, hyp.1, h3]
        exact this
      · have o := other p s ho.1
        obtain ⟨z, z1, z2⟩ := o.2
        have := hth z z1
        have := hth y h1
        have t := mul_mono (aD_tri (a / 2) z y) htl.1
        rw [same q (by omega), z2, hyp.1, hyp.2.1]
        omega
    · have hyq : (q / 2 = p / 2 + 1 ∨ p / 2 = q / 2 + 1) ∧ p % 2 = q % 2 := by omega
      have nx : ∀ z, aD z (q / 2) ≤ aD z (p / 2) + 1 := fun z => by
        rcases hyq.1 with e | e
        · rw [e]; exact (aD_next z (p / 2)).1
        · rw [e]; exact (aD_next z (q / 2)).2
      by_cases s : a % 2 = p % 2
      · rw [same p s, same q (by omega), h4]
        exact mul_mono1 (nx _) htl.1
      · have o := other p s ho.1
        have o2 := other q (by omega) ho.2.1
        obtain ⟨z, z1, z2⟩ := o.2
        have := o2.1 z z1
        have n := nx z
        have t := mul_mono1 (x := aD (a / 2) z + aD z (q / 2)) (y := aD (a / 2) z + aD z (p / 2)) (by omega) htl.1
        rw [z2, h4]
        omega
  · by_cases s : a % 2 = p % 2
    · rw [same p s]
      exact nT_along a p ha hp s
    · obtain ⟨z, z1, z2⟩ := (other p s hp).2
      rw [z2]
      obtain ⟨n1, w1⟩ := nT_along (th := th) (tl := tl) (Y := Y) a (2 * z + a % 2) ha (by omega) (by omega)
      obtain ⟨n2, w2⟩ := nT_along (th := th) (tl := tl) (Y := Y) (2 * z + p % 2) p (by omega) hp (by omega)
      have he : nT th tl Y (2 * z + a % 2) (2 * z + p % 2) (th z) := Or.inl ⟨z, z1, by unfold thr; omega, rfl⟩
      have w3 := Wk_app (Wk_snoc w1 he) w2
      rw [show (2 * z + a % 2) / 2 = z by omega, show (2 * z + p % 2) / 2 = z by omega] at w3
      refine ⟨n1 + 1 + n2, ?_⟩
      rw [Int.add_mul, show aD (a / 2) z * tl + aD z (p / 2) * tl + th z = aD (a / 2) z * tl + th z + aD z (p / 2) * tl by omega]
      exact w3
  · have := hin p hp
    omega
/-- the wall's own: news -/
def WN (v : Nat → Nat → Int) : Prop := (2 ≤ v 11 0 ∧ v 11 0 ≤ 30) ∧ (∀ y, y < 30 → 1 ≤ v 3 y ∧ v 3 y ≤ 9) ∧ 1 ≤ v 12 0 ∧ v 12 0 ≤ 30
def CN (v : Nat → Nat → Int) : Prop := v 64 140 = v 11 0 ∧ (∀ y, y < 30 → v 64 y = v 3 y) ∧ v 64 141 = v 12 0
theorem lp_hear {Y a b : Nat} (x1 x2 : Int) (hW : WN v) (hY : v 11 0 = (Y : Int)) (ha : a < Y) (hb : b < Y) : ∀ (n j : Nat) (u8 : pm_V), j + n = Y → qG L xs (d + 3) CX6_hearing 60 [(2, 1), (0, x1), (0, x2), (0, (a : Int)), (0, (b : Int)), (0, v 12 0), (0, hL (v 3) (v 12 0) a b j), (0, (j : Int)), u8] [] (qS v) = some (some (0, hL (v 3) (v 12 0) a b Y), qS v)
  | 0, j, u8, hj => by
    rw [b_X6_hearing_60, c_yardsNow, qB_some, psh_some, b_X6_hearing_66, if_neg (by omega), b_X6_hearing_113, show j = Y by omega]
  | n + 1, j, u8, hj => by
    obtain ⟨q1, q2, q3⟩ := hW
    have ih := lp_hear x1 x2 ⟨q1, q2, q3⟩ hY ha hb n (j + 1) (0, aD a j + aD j b) (by omega)
    refine Eq.trans ?_ ih
    have a1 := aD_in a j (by omega) (by omega)
    have a2 := aD_in j b (by omega) (by omega)
    have a3 := mul_b (x := aD a j + aD j b) (by omega) (by omega) q3.1 q3.2
    have a4 := q2 j (by omega)
    have a0 : hm v 0 = 30 := rfl
    rw [b_X6_hearing_60, c_yardsNow, qB_some, psh_some, b_X6_hearing_66, if_pos (by omega), b_X6_hearing_69, c_value_in 0 j (by omega) (by omega) (by omega) (by omega) (by omega), qB_some, psh_some, show v (3 + (0 : Int).toNat) (j : Int).toNat = v 3 j from rfl, abs_aD a j (by omega) (by omega), abs_aD j b (by omega) (by omega), w32_id (z := aD a j + aD j b) (by omega) (by omega), w32_id (z := (aD a j + aD j b) * v 12 0) (by omega) (by omega), b_X6_hearing_101, w32_id (z := (aD a j + aD j b) * v 12 0 + v 3 j) (by omega) (by omega), w32_id (by omega) (by omega)]
    rfl
theorem c_hearing {Y a b : Nat} (hW : WN v) (hY : v 11 0 = (Y : Int)) (ha : a < 2 * Y) (hb : b < 2 * Y) : qE L xs (d + 4) nX6_hearing [(2, 1), (0, (a : Int)), (0, (b : Int))] (qS v) = some (some (0, hN (v 3) (v 12 0) Y a b), qS v) := by
  obtain ⟨q1, q2, q3⟩ := hW
  have a1 := aD_in (a / 2) (b / 2) (by omega) (by omega)
  have a3 := mul_b (x := aD (a / 2) (b / 2)) (by omega) (by omega) q3.1 q3.2
  have a0 : hm v 0 = 30 := rfl
  have a9 : hm v 9 = 1 := rfl
  rw [e_X6_hearing, b_X6_hearing_0, c_value_in 9 0 (by omega) (by omega) (by omega) (by omega) (by omega), qB_some, psh_some, show v (3 + (9 : Int).toNat) (0 : Int).toNat = v 12 0 from rfl, half_p a (by omega), half_p b (by omega), b_X6_hearing_16, odd_p, odd_p]
  unfold hN
  by_cases h : a % 2 = b % 2
  · rw [if_pos (by omega), if_pos h, b_X6_hearing_27, abs_aD _ _ (by omega) (by omega), w32_id (by omega) (by omega)]
  · have l := lp_hear (L := L) (xs := xs) (d := d) (v := v) (Y := Y) (a := a / 2) (b := b / 2) (a : Int) (b : Int) ⟨q1, q2, q3⟩ hY (by omega) (by omega) Y 0 (9, 0) (by omega)
    have a4 := q2 (a / 2) (by omega)
    rw [if_neg (by omega), if_neg h, b_X6_hearing_38, c_value_in 0 ((a / 2 : Nat) : Int) (by omega) (by omega) (by omega) (by omega) (by omega), qB_some, psh_some, show v (3 + (0 : Int).toNat) (((a / 2 : Nat) : Int)).toNat = v 3 (a / 2) from rfl, abs_aD _ _ (by omega) (by omega), w32_id (z := aD (a / 2) (b / 2) * v 12 0) (by omega) (by omega), b_X6_hearing_54, w32_id (z := aD (a / 2) (b / 2) * v 12 0 + v 3 (a / 2)) (by omega) (by omega)]
    exact l
end NW
end
section
/-! NEWS, HEARD, WHENCE: both answer, and alike -/
section NX
variable {L : Nat} {xs : Nat → Int} {d : Nat} {v : Nat → Nat → Int} {P : Nat}
theorem lp_nfill : ∀ (n j : Nat) (v : Nat → Nat → Int), j + n = 3600 → (∀ i, i < j → v 74 i = 1000000) → ∃ v', qG L xs d CX12_asksNews 2 [(2, 63), (0, (j : Int)), (9, 0), (9, 0)] [] (qS v) = qG L xs d CX12_asksNews 23 [(2, 63), (0, 3600), (9, 0), (9, 0)] [] (qS v') ∧ (∀ c, c ≠ 74 → v' c = v c) ∧ ∀ i, i < 3600 → v' 74 i = 1000000
  | 0, j, v, hj, h => by
    have hjN : j = 3600 := by omega
    subst hjN
    refine ⟨v, ?_, fun _ _ => rfl, h⟩
    rw [b_X12_asksNews_2, if_neg (by omega)]
    rfl
  | n + 1, j, v, hj, h => by
    obtain ⟨v', e1, e2, e3⟩ := lp_nfill n (j + 1) (pm_up v 74 j 1000000) (by omega) (fun i hi => by
      by_cases hij : i = j
      · rw [hij, up_eq]
      · rw [up_ne (by omega)]
        exact h i (by omega))
    refine ⟨v', ?_, fun c hc => (e2 c hc).trans (up_cell hc), e3⟩
    refine Eq.trans ?_ e1
    rw [b_X12_asksNews_2, if_pos (by omega), b_X12_asksNews_9, if_pos (by omega), Int.toNat_natCast, b_X12_asksNews_17, w32_id (by omega) (by omega)]
    rfl
/-- the ladder's steps, of the yards below y -/
def nU (th : Nat → Int) (tl : Int) (Y y : Nat) (a b : Nat) (k : Int) : Prop := (∃ z, z < y ∧ thr z a b ∧ k = th z) ∨ ((b = a + 2 ∧ a / 2 < y ∨ a = b + 2 ∧ b / 2 < y) ∧ a < 2 * Y ∧ b < 2 * Y ∧ k = tl)
theorem lp_nside {th : Nat → Int} {tl : Int} {Y y s : Nat} {T : Nat → Nat → Int → Prop} (hY : Y ≤ 30) (hy : y + 1 < Y) (hs : s < 2) (htl : 1 ≤ tl ∧ tl ≤ 30) (h1 : v 64 141 = tl) (h : MH v T) : ∃ v', qG L xs (d + 1) CX12_asksNews 47 [(2, 63), (0, (Y : Int)), (0, (y : Int)), (0, (s : Int))] [] (qS v) = qG L xs (d + 1) CX12_asksNews 47 [(2, 63), (0, (Y : Int)), (0, (y : Int)), (0, ((s + 1 : Nat) : Int))] [] (qS v') ∧ (∀ c, c ≠ 74 → v' c = v c) ∧ MH v' (fun a b k => T a b k ∨ (((a = 2 * y + s ∧ b = 2 * y + 2 + s) ∨ (a = 2 * y + 2 + s ∧ b = 2 * y + s)) ∧ k = tl)) := by
  obtain ⟨v1, e1, e2, e3⟩ := m_leads (L := L) (xs := xs) (d := d) h (a := 2 * y + s) (b := 2 * y + 2 + s) (by omega) (by omega) (k := tl) (by omega)
  obtain ⟨v2, e4, e5, e6⟩ := m_leads (L := L) (xs := xs) (d := d) e3 (a := 2 * y + 2 + s) (b := 2 * y + s) (by omega) (by omega) (k := tl) (by omega)
  have g1 : v1 64 141 = tl := by rw [e2 64 (by decide)]; exact h1
  refine ⟨v2, ?_, fun c hc => (e5 c hc).trans (e2 c hc), MH_if (fun a b k => ?_) e6⟩
  · have w1 : w32 (w32 (2 * (y : Int)) + (s : Int)) = ((2 * y + s : Nat) : Int) := by
      rw [w32_id (z := 2 * (y : Int)) (by omega) (by omega), w32_id (by omega) (by omega)]; omega
    have w2 : w32 (w32 (w32 (2 * (y : Int)) + 2) + (s : Int)) = ((2 * y + 2 + s : Nat) : Int) := by
      rw [w32_id (z := 2 * (y : Int)) (by omega) (by omega), w32_id (z := 2 * (y : Int) + 2) (by omega) (by omega), w32_id (by omega) (by omega)]; omega
    rw [b_X12_asksNews_47, if_pos (by omega), b_X12_asksNews_52, w32_id (z := (y : Int) + 1) (by omega) (by omega), if_pos (by omega), b_X12_asksNews_59, w1, w2, h1, e1, qB_some, psh_none, b_X12_asksNews_83, w1, w2, g1, e4, qB_some, psh_none, b_X12_asksNews_107, w32_id (by omega) (by omega)]
    rfl
  · constructor
    · rintro ((g | ⟨g1, g2, g3⟩) | ⟨g1, g2, g3⟩)
      · exact Or.inl g
      · exact Or.inr ⟨Or.inl ⟨g1, g2⟩, g3⟩
      · exact Or.inr ⟨Or.inr ⟨g1, g2⟩, g3⟩
    · rintro (g | ⟨⟨g1, g2⟩ | ⟨g1, g2⟩, g3⟩)
      · exact Or.inl (Or.inl g)
      · exact Or.inl (Or.inr ⟨g1, g2, g3⟩)
      · exact Or.inr ⟨g1, g2, g3⟩
theorem lp_news {th : Nat → Int} {tl : Int} {Y : Nat} (hY : Y ≤ 30) (hth : ∀ y, y < Y → 1 ≤ th y ∧ th y ≤ 9) (htl : 1 ≤ tl ∧ tl ≤ 30) : ∀ (n y : Nat) (v : Nat → Nat → Int) (u3 : pm_V), y + n = Y → v 64 141 = tl → (∀ y, y < Y → v 64 y = th y) → MH v (nU th tl Y y) → ∃ v', qG L xs (d + 3) CX12_asksNews 30 [(2, 63), (0, (Y : Int)), (0, (y : Int)), u3] [] (qS v) = some (none, qS v') ∧ (∀ c, c ≠ 74 → v' c = v c) ∧ MH v' (nU th tl Y Y)
  | 0, y, v, u3, hy, h1, h2, h => by
    have e : y = Y := by omega
    subst e
    refine ⟨v, ?_, fun _ _ => rfl, h⟩
    rw [b_X12_asksNews_30, if_neg (by omega), b_X12_asksNews_119]
  | n + 1, y, v, u3, hy, h1, h2, h => by
    have hty := hth y (by omega)
    obtain ⟨v1, e1, e2, e3⟩ := m_through (L := L) (xs := xs) (d := d + 1) h (y := y) (by omega) (k := th y) (by omega)
    have a1 : qG L xs (d + 3) CX12_asksNews 30 [(2, 63), (0, (Y : Int)), (0, (y : Int)), u3] [] (qS v) = qG L xs (d + 3) CX12_asksNews 47 [(2, 63), (0, (Y : Int)), (0, (y : Int)), (0, 0)] [] (qS v1) := by
      rw [b_X12_asksNews_30, if_pos (by omega), b_X12_asksNews_35, e_X12_thickOf, b_X12_thickOf_0, if_pos (by omega), Int.toNat_natCast, h2 y (by omega), b_X12_thickOf_6, qB_some, psh_some, b_X12_asksNews_42, e1, qB_some, psh_none, b_X12_asksNews_45]
    by_cases g : y + 1 < Y
    · obtain ⟨v2, e4, e5, e6⟩ := lp_nside (L := L) (xs := xs) (d := d + 2) (th := th) (s := 0) hY g (by omega) htl (by rw [e2 64 (by decide)]; exact h1) e3
      obtain ⟨v3, e7, e8, e9⟩ := lp_nside (L := L) (xs := xs) (d := d + 2) (th := th) (s := 1) hY g (by omega) htl (by rw [e5 64 (by decide), e2 64 (by decide)]; exact h1) e6
      have f3 : ∀ c, c ≠ 74 → v3 c = v c := fun c hc => (e8 c hc).trans ((e5 c hc).trans (e2 c hc))
      obtain ⟨v4, k1, k2, k3⟩ := lp_news hY hth htl n (y + 1) v3 (0, 2) (by omega) (by rw [f3 64 (by decide)]; exact h1) (by rw [f3 64 (by decide)]; exact h2) (MH_if (fun a b k => by
        unfold nU
        constructor
        · rintro ((((⟨z, z1, z2, z3⟩ | ⟨z1, z2, z3, z4⟩) | ⟨z1, z2⟩) | ⟨z1, z2⟩) | ⟨z1, z2⟩)
          · exact Or.inl ⟨z, by omega, z2, z3⟩
          · exact Or.inr ⟨by omega, z2, z3, z4⟩
          · exact Or.inl ⟨y, by omega, z1, z2⟩
          · exact Or.inr ⟨by omega, by omega, by omega, z2⟩
          · exact Or.inr ⟨by omega, by omega, by omega, z2⟩
        · rintro (⟨z, z1, z2, z3⟩ | ⟨z1, z2, z3, z4⟩)
          · by_cases hz : z = y
            · subst hz
              exact Or.inl (Or.inl (Or.inr ⟨z2, z3⟩))
            · exact Or.inl (Or.inl (Or.inl (Or.inl ⟨z, by omega, z2, z3⟩)))
          · by_cases hz : (b = a + 2 ∧ a / 2 < y ∨ a = b + 2 ∧ b / 2 < y)
            · exact Or.inl (Or.inl (Or.inl (Or.inr ⟨hz, z2, z3, z4⟩)))
            · by_cases h0 : (a = 2 * y + 0 ∧ b = 2 * y + 2 + 0) ∨ (a = 2 * y + 2 + 0 ∧ b = 2 * y + 0)
              · exact Or.inl (Or.inr ⟨h0, z4⟩)
              · exact Or.inr ⟨by omega, z4⟩) e9)
      refine ⟨v4, ?_, fun c hc => (k2 c hc).trans (f3 c hc), k3⟩
      refine Eq.trans ?_ k1
      rw [a1]
      refine Eq.trans e4 (Eq.trans e7 ?_)
      rw [b_X12_asksNews_47, if_neg (by omega), b_X12_asksNews_113, w32_id (by omega) (by omega)]
      rfl
    · obtain ⟨v4, k1, k2, k3⟩ := lp_news hY hth htl n (y + 1) v1 (0, 0) (by omega) (by rw [e2 64 (by decide)]; exact h1) (by rw [e2 64 (by decide)]; exact h2) (MH_if (fun a b k => by
        unfold nU
        constructor
        · rintro ((⟨z, z1, z2, z3⟩ | ⟨z1, z2, z3, z4⟩) | ⟨z1, z2⟩)
          · exact Or.inl ⟨z, by omega, z2, z3⟩
          · exact Or.inr ⟨by omega, z2, z3, z4⟩
          · exact Or.inl ⟨y, by omega, z1, z2⟩
        · rintro (⟨z, z1, z2, z3⟩ | ⟨z1, z2, z3, z4⟩)
          · by_cases hz : z = y
            · subst hz
              exact Or.inr ⟨z2, z3⟩
            · exact Or.inl (Or.inl ⟨z, by omega, z2, z3⟩)
          · exact Or.inl (Or.inr ⟨by omega, z2, z3, z4⟩)) e3)
      refine ⟨v4, ?_, fun c hc => (k2 c hc).trans (e2 c hc), k3⟩
      refine Eq.trans ?_ k1
      rw [a1, b_X12_asksNews_47, if_pos (by omega), b_X12_asksNews_52, w32_id (by omega) (by omega), if_neg (by omega), b_X12_asksNews_113, w32_id (by omega) (by omega)]
      rfl
theorem m_asksNews {Y : Nat} (hW : WN v) (hC : CN v) (hY : v 11 0 = (Y : Int)) : ∃ v', qE L xs (d + 4) nX12_asksNews [(2, 63)] (qS v) = some (none, qS v') ∧ (∀ c, c ≠ 74 → v' c = v c) ∧ MH v' (nT (v 3) (v 12 0) Y) := by
  obtain ⟨q1, q2, q3⟩ := hW
  obtain ⟨k1, k2, k3⟩ := hC
  obtain ⟨v1, e1, e2, e3⟩ := lp_nfill (L := L) (xs := xs) (d := d + 3) 3600 0 v (by omega) (fun i hi => absurd hi (by omega))
  obtain ⟨v2, e4, e5, e6⟩ := lp_news (L := L) (xs := xs) (d := d) (th := v 3) (tl := v 12 0) (Y := Y) (by omega) (fun y hy => q2 y (by omega)) q3 Y 0 v1 (9, 0) (by omega) (by rw [e2 64 (by decide)]; exact k3) (fun y hy => by rw [e2 64 (by decide)]; exact k2 y (by omega)) ⟨fun a b ha hb => Or.inl (e3 _ (by omega)), fun a b k hk => by
    rcases hk with ⟨z, z1, -⟩ | ⟨z1, -⟩
    · omega
    · omega, fun a b k hk => by
    rcases hk with ⟨z, z1, -⟩ | ⟨z1, -⟩
    · omega
    · omega⟩
  refine ⟨v2, ?_, fun c hc => (e5 c hc).trans (e2 c hc), MH_if (fun a b k => ?_) e6⟩
  · rw [e_X12_asksNews, b_X12_asksNews_0]
    refine Eq.trans e1 ?_
    rw [b_X12_asksNews_23, c_yardMany, qB_some, psh_some, b_X12_asksNews_27, e2 64 (by decide), k1, hY]
    exact e4
  · unfold nU nT
    constructor
    · rintro (z | ⟨z1, z2, z3, z4⟩)
      · exact Or.inl z
      · exact Or.inr ⟨by omega, z2, z3, z4⟩
    · rintro (z | ⟨z1, z2, z3, z4⟩)
      · exact Or.inl z
      · exact Or.inr ⟨by omega, z2, z3, z4⟩
theorem m_nfrom {Y s : Nat} {u : Nat → Nat → Int} (hW : WN v) (hY : v 11 0 = (Y : Int)) (h64 : u 64 140 = (Y : Int)) (h : MH u (nT (v 3) (v 12 0) Y)) (hs : s < 2 * Y) : ∃ v', qE L xs (d + 2) nX12_goesFrom [(2, 63), (0, (s : Int))] (qS u) = some (none, qS v') ∧ (∀ c, c ≠ 75 → c ≠ 76 → v' c = u c) ∧ ∀ p, p < 2 * Y → v' 75 p = hN (v 3) (v 12 0) Y s p := by
  obtain ⟨q1, q2, q3⟩ := hW
  obtain ⟨v1, e1, e2, e3⟩ := m_from (L := L) (xs := xs) (d := d) (v := u) (N := 2 * Y) (by omega) (by omega) (nT_ok (th := v 3) (fun y hy => q2 y (by omega)) q3) h hs
  refine ⟨v1, e1, e2, fun p hp => ?_⟩
  have hl := hN_Lst (th := v 3) (tl := v 12 0) (Y := Y) (a := s) (b := p) (by omega) (fun y hy => q2 y (by omega)) q3 hs hp
  have hi := hN_in (th := v 3) (tl := v 12 0) (Y := Y) (a := s) (b := p) (by omega) (fun y hy => q2 y (by omega)) q3 hs hp
  rcases Lst_one hl (e3 p hp) with ⟨-, -, x, -⟩ | ⟨x, -⟩
  · exact x
  · omega
theorem op_news (hW : WN v) (hC : CN v) (y : Int) (hy : y < 2147483648) : opW L xs d v nX11_news nX12_news [(0, y)] := by
  have hW0 := hW
  obtain ⟨q1, q2, q3⟩ := hW0
  have k1 := hC.1
  obtain ⟨Y, hY⟩ : ∃ Y : Nat, v 11 0 = (Y : Int) := ⟨(v 11 0).toNat, by omega⟩
  by_cases g : 0 ≤ y ∧ y / 100 < 2 * v 11 0 ∧ y % 100 < 2 * v 11 0
  · obtain ⟨a, ha⟩ : ∃ a : Nat, y / 100 = (a : Int) := ⟨(y / 100).toNat, by omega⟩
    obtain ⟨b, hb⟩ : ∃ b : Nat, y % 100 = (b : Int) := ⟨(y % 100).toNat, by omega⟩
    have y1 : w32 (Int.tdiv y 100) = (a : Int) := by rw [td_pos 100 (by omega), w32_id (by omega) (by omega), ha]
    have y2 : Int.tmod y 100 = (b : Int) := by rw [tm_pos 100 (by omega), hb]
    obtain ⟨v1, e1, e2, e3⟩ := m_asksNews (L := L) (xs := xs) (d := d + 95) hW hC hY
    have hT := nT_ok (th := v 3) (tl := v 12 0) (Y := Y) (fun y hy => q2 y (by omega)) q3
    obtain ⟨v2, r, e4, e5, e6⟩ := m_wayFrom (L := L) (xs := xs) (d := d + 96) (v := v1) (N := 2 * Y) (s := a) (p := b) (by omega) (by rw [e2 64 (by decide)]; omega) hT e3 (by omega) (by omega)
    have hl := hN_Lst (th := v 3) (tl := v 12 0) (Y := Y) (a := a) (b := b) (by omega) (fun y hy => q2 y (by omega)) q3 (by omega) (by omega)
    have hi := hN_in (th := v 3) (tl := v 12 0) (Y := Y) (a := a) (b := b) (by omega) (fun y hy => q2 y (by omega)) q3 (by omega) (by omega)
    have hr : r = hN (v 3) (v 12 0) Y a b := by
      rcases Lst_one hl e6 with ⟨-, -, x, -⟩ | ⟨x, -⟩
      · exact x
      · omega
    refine ⟨hN (v 3) (v 12 0) Y a b, v, v2, ?_, fW_r v, ?_, fP_t (fA_P (fA_74 e2)) (fP_75 e5)⟩
    · rw [e_X11_news, b_X11_news_0, c_arePlaces (by omega) (by omega) y hy, qB_some, psh_some, b_X11_news_5, zb_0, if_pos g, b_X11_news_8, y1, y2, c_hearing hW hY (by omega) (by omega), qB_some, psh_some, b_X11_news_23, b_X11_news_27]
    · rw [e_X12_news, b_X12_news_0, m_isAb (by omega) (by omega) y hy, qB_some, psh_some, b_X12_news_5, zb_0, if_pos (by omega), b_X12_news_10, e1, qB_some, psh_none, b_X12_news_14, y1, y2, e4, qB_some, psh_some, b_X12_news_26, hr]
  · refine opW_no (r := -1) ?_ ?_
    · rw [e_X11_news, b_X11_news_0, c_arePlaces (by omega) (by omega) y hy, qB_some, psh_some, b_X11_news_5, zb_0, if_neg g, b_X11_news_26, b_X11_news_27]
    · rw [e_X12_news, b_X12_news_0, m_isAb (by omega) (by omega) y hy, qB_some, psh_some, b_X12_news_5, zb_0, k1, if_neg g, b_X12_news_8]
/-- the last of the greatest -/
def ltF (m : Nat → Int) : Nat → Nat
  | 0 => 0
  | j + 1 => if m (ltF m j) ≤ m j then j else ltF m j
theorem ltF_in (m : Nat → Int) : ∀ j, ltF m j ≤ j
  | 0 => Nat.le_refl 0
  | j + 1 => by
    have := ltF_in m j
    unfold ltF
    split <;> omega
theorem lp_hmany {Y a : Nat} (x : Int) (hW : WN v) (hY : v 11 0 = (Y : Int)) (ha : a < 2 * Y) : ∀ (n j : Nat), j + n = 2 * Y → qG L xs (d + 4) CX6_howManyHear 5 [(2, 1), (0, (a : Int)), (0, x), (0, foC (hN (v 3) (v 12 0) Y a) x j), (0, (j : Int))] [] (qS v) = some (some (0, foC (hN (v 3) (v 12 0) Y a) x (2 * Y)), qS v)
  | 0, j, hj => by
    have q1 := hW.1
    rw [b_X6_howManyHear_5, c_placesNow (by omega) (by omega), qB_some, psh_some, b_X6_howManyHear_11, if_neg (by omega), b_X6_howManyHear_39, show j = 2 * Y by omega]
  | n + 1, j, hj => by
    have q1 := hW.1
    have ih := lp_hmany x hW hY ha n (j + 1) (by omega)
    have hc := foC_in (hN (v 3) (v 12 0) Y a) x j
    refine Eq.trans ?_ ih
    have e : foC (hN (v 3) (v 12 0) Y a) x (j + 1) = foC (hN (v 3) (v 12 0) Y a) x j + (if x < hN (v 3) (v 12 0) Y a j then 0 else 1) := rfl
    rw [e, b_X6_howManyHear_5, c_placesNow (by omega) (by omega), qB_some, psh_some, b_X6_howManyHear_11, if_pos (by omega), b_X6_howManyHear_14, c_hearing hW hY ha (by omega), qB_some, psh_some, b_X6_howManyHear_22]
    by_cases g : x < hN (v 3) (v 12 0) Y a j
    · rw [if_pos g, if_pos g, b_X6_howManyHear_30, b_X6_howManyHear_31, w32_id (by omega) (by omega), w32_id (by omega) (by omega)]
      rfl
    · rw [if_neg g, if_neg g, b_X6_howManyHear_26, b_X6_howManyHear_31, w32_id (by omega) (by omega), w32_id (by omega) (by omega)]
      rfl
theorem lp_hlast {Y a : Nat} (hW : WN v) (hY : v 11 0 = (Y : Int)) (ha : a < 2 * Y) : ∀ (n j : Nat) (x y : Int) (u5 : pm_V), j + n = 2 * Y → ((j = 0 ∧ y = 0) ∨ (0 < j ∧ x = (ltF (hN (v 3) (v 12 0) Y a) j : Int) ∧ y = hN (v 3) (v 12 0) Y a (ltF (hN (v 3) (v 12 0) Y a) j))) → qG L xs (d + 4) CX6_lastToHear 7 [(2, 1), (0, (a : Int)), (0, x), (0, y), (0, (j : Int)), u5] [] (qS v) = some (some (0, (ltF (hN (v 3) (v 12 0) Y a) (2 * Y) : Int)), qS v)
  | 0, j, x, y, u5, hj, hx => by
    have q1 := hW.1
    have hj2 : j = 2 * Y := by omega
    rw [b_X6_lastToHear_7, c_placesNow (by omega) (by omega), qB_some, psh_some, b_X6_lastToHear_13, if_neg (by omega), b_X6_lastToHear_43]
    rcases hx with ⟨h, -⟩ | ⟨-, h, -⟩
    · omega
    · rw [h, hj2]
  | n + 1, j, x, y, u5, hj, hx => by
    obtain ⟨q1, q2, q3⟩ := hW
    have hi := hN_in (th := v 3) (tl := v 12 0) (Y := Y) (a := a) (b := j) (by omega) (fun y hy => q2 y (by omega)) q3 ha (by omega)
    generalize hmd : hN (v 3) (v 12 0) Y a = m at hx hi ⊢
    have hear : qE L xs (d + 4) nX6_hearing [(2, 1), (0, (a : Int)), (0, (j : Int))] (qS v) = some (some (0, m j), qS v) := by
      rw [← hmd]
      exact c_hearing ⟨q1, q2, q3⟩ hY ha (by omega)
    have e : ltF m (j + 1) = if m (ltF m j) ≤ m j then j else ltF m j := rfl
    by_cases g : m j < y
    · have hx2 : 0 < j ∧ x = (ltF m j : Int) ∧ y = m (ltF m j) := by
        rcases hx with ⟨h1, h2⟩ | h
        · omega
        · exact h
      have ih := lp_hlast ⟨q1, q2, q3⟩ hY ha n (j + 1) x y (0, m j) (by omega) (by
        rw [hmd]
        refine Or.inr ⟨by omega, ?_, ?_⟩
        · rw [e, if_neg (by omega)]; exact hx2.2.1
        · rw [e, if_neg (by omega)]; exact hx2.2.2)
      rw [hmd] at ih
      refine Eq.trans ?_ ih
      rw [b_X6_lastToHear_7, c_placesNow (by omega) (by omega), qB_some, psh_some, b_X6_lastToHear_13, if_pos (by omega), b_X6_lastToHear_16, hear, qB_some, psh_some, b_X6_lastToHear_23, if_pos g, b_X6_lastToHear_37, w32_id (by omega) (by omega)]
      rfl
    · have hl : ltF m (j + 1) = j := by
        rw [e]
        rcases hx with ⟨h1, h2⟩ | ⟨h0, h1, h2⟩
        · subst h1
          exact if_pos (Int.le_refl _)
        · exact if_pos (by omega)
      have ih := lp_hlast ⟨q1, q2, q3⟩ hY ha n (j + 1) (j : Int) (m j) (0, m j) (by omega) (by
        rw [hmd, hl]
        exact Or.inr ⟨by omega, rfl, rfl⟩)
      rw [hmd] at ih
      refine Eq.trans ?_ ih
      rw [b_X6_lastToHear_7, c_placesNow (by omega) (by omega), qB_some, psh_some, b_X6_lastToHear_13, if_pos (by omega), b_X6_lastToHear_16, hear, qB_some, psh_some, b_X6_lastToHear_23, if_neg g, b_X6_lastToHear_31, b_X6_lastToHear_37, w32_id (by omega) (by omega)]
      rfl
theorem lp_mheard {m : Nat → Int} {Y : Nat} (x1 x : Int) (hY : v 64 140 = (Y : Int)) (hY2 : Y ≤ 30) (hm : ∀ p, p < 2 * Y → v 75 p = m p) : ∀ (n j : Nat), j + n = 2 * Y → qG L xs (d + 1) CX12_heard 42 [(2, 63), (0, x1), (0, x), (0, foC m x j), (0, (ltF m j : Int)), (0, (j : Int))] [] (qS v) = qG L xs (d + 1) CX12_heard 104 [(2, 63), (0, x1), (0, x), (0, foC m x (2 * Y)), (0, (ltF m (2 * Y) : Int)), (0, ((2 * Y : Nat) : Int))] [] (qS v)
  | 0, j, hj => by
    rw [b_X12_heard_42, c_yardMany, qB_some, psh_some, b_X12_heard_49, w32_id (by omega) (by omega), if_neg (by omega), show j = 2 * Y by omega]
  | n + 1, j, hj => by
    have ih := lp_mheard x1 x hY hY2 hm n (j + 1) (by omega)
    have hc := foC_in m x j
    have hl := ltF_in m j
    refine Eq.trans ?_ ih
    have e : foC m x (j + 1) = foC m x j + (if x < m j then 0 else 1) := rfl
    have e2 : ltF m (j + 1) = if m (ltF m j) ≤ m j then j else ltF m j := rfl
    have a1 : qG L xs (d + 1) CX12_heard 42 [(2, 63), (0, x1), (0, x), (0, foC m x j), (0, (ltF m j : Int)), (0, (j : Int))] [] (qS v) = qG L xs (d + 1) CX12_heard 86 [(2, 63), (0, x1), (0, x), (0, foC m x (j + 1)), (0, (ltF m j : Int)), (0, (j : Int))] [(0, m (ltF m j)), (0, m j)] (qS v) := by
      rw [e, b_X12_heard_42, c_yardMany, qB_some, psh_some, b_X12_heard_49, w32_id (by omega) (by omega), if_pos (by omega), b_X12_heard_53, if_pos (by omega), Int.toNat_natCast, hm j (by omega), b_X12_heard_61]
      by_cases g : x < m j
      · rw [if_pos g, if_pos g, b_X12_heard_69, b_X12_heard_70, if_pos (by omega), Int.toNat_natCast, hm j (by omega), w32_id (by omega) (by omega), b_X12_heard_79, if_pos (by omega), Int.toNat_natCast, hm _ (by omega)]
      · rw [if_neg g, if_neg g, b_X12_heard_65, b_X12_heard_70, if_pos (by omega), Int.toNat_natCast, hm j (by omega), w32_id (by omega) (by omega), b_X12_heard_79, if_pos (by omega), Int.toNat_natCast, hm _ (by omega)]
    rw [a1, b_X12_heard_86, e2]
    by_cases g : m (ltF m j) ≤ m j
    · rw [if_neg (by omega), if_pos g, b_X12_heard_89, b_X12_heard_96, w32_id (by omega) (by omega)]
      rfl
    · rw [if_pos (by omega), if_neg g, b_X12_heard_94, b_X12_heard_96, w32_id (by omega) (by omega)]
      rfl
theorem op_heard (hW : WN v) (hC : CN v) (a w : Int) : opW L xs d v nX11_heard nX12_heard [(0, a), (0, w)] := by
  have hW0 := hW
  obtain ⟨q1, q2, q3⟩ := hW0
  have k1 := hC.1
  obtain ⟨Y, hY⟩ : ∃ Y : Nat, v 11 0 = (Y : Int) := ⟨(v 11 0).toNat, by omega⟩
  by_cases g : (0 ≤ a ∧ a < 2 * v 11 0) ∧ -1 ≤ w ∧ w ≤ 999
  · obtain ⟨s, rfl⟩ : ∃ s : Nat, a = (s : Int) := ⟨a.toNat, by omega⟩
    obtain ⟨v1, e1, e2, e3⟩ := m_asksNews (L := L) (xs := xs) (d := d + 95) hW hC hY
    have h64 : v1 64 140 = (Y : Int) := by rw [e2 64 (by decide)]; omega
    obtain ⟨v2, e4, e5, e6⟩ := m_nfrom (L := L) (xs := xs) (d := d + 97) (s := s) hW hY h64 e3 (by omega)
    have l1 := lp_hmany (L := L) (xs := xs) (d := d + 94) (v := v) (a := s) w hW hY (by omega) (2 * Y) 0 (by omega)
    have l2 := lp_hlast (L := L) (xs := xs) (d := d + 94) (v := v) (a := s) hW hY (by omega) (2 * Y) 0 (s : Int) 0 (9, 0) (by omega) (Or.inl ⟨rfl, rfl⟩)
    have l3 := lp_mheard (L := L) (xs := xs) (d := d + 98) (v := v2) (m := hN (v 3) (v 12 0) Y s) (Y := Y) (s : Int) w (by rw [e5 64 (by decide) (by decide)]; exact h64) (by omega) e6 (2 * Y) 0 (by omega)
    refine ⟨if w < 0 then (ltF (hN (v 3) (v 12 0) Y s) (2 * Y) : Int) else foC (hN (v 3) (v 12 0) Y s) w (2 * Y), v, v2, ?_, fW_r v, ?_, fP_t (fA_P (fA_74 e2)) (fP_75 e5)⟩
    · rw [e_X11_heard, b_X11_heard_0, c_hasPlace (by omega) (by omega), qB_some, psh_some, b_X11_heard_8, zb_0, if_pos g.1, b_X11_heard_11, if_neg (by omega), b_X11_heard_16, if_neg (by omega), b_X11_heard_25]
      by_cases z : w < 0
      · rw [if_pos z, if_pos z, b_X11_heard_29, e_X6_lastToHear, b_X6_lastToHear_0]
        rw [show qG L xs (d + 98) CX6_lastToHear 7 [(2, 1), (0, (s : Int)), (0, (s : Int)), (0, 0), (0, 0), (9, 0)] [] (qS v) = _ from l2, qB_some, psh_some, b_X11_heard_37, b_X11_heard_49]
      · rw [if_neg z, if_neg z, b_X11_heard_40, e_X6_howManyHear, b_X6_howManyHear_0]
        rw [show qG L xs (d + 98) CX6_howManyHear 5 [(2, 1), (0, (s : Int)), (0, w), (0, 0), (0, 0)] [] (qS v) = _ from l1, qB_some, psh_some, b_X11_heard_49]
    · rw [e_X12_heard, b_X12_heard_0, c_isPlace (by omega) (by omega), qB_some, psh_some, b_X12_heard_6, zb_0, if_pos (by omega), b_X12_heard_9, c_within, qB_some, psh_some, b_X12_heard_20, zb_0, if_pos g.2, b_X12_heard_25, e1, qB_some, psh_none, b_X12_heard_29, e4, qB_some, psh_none, b_X12_heard_34]
      refine Eq.trans l3 ?_
      rw [b_X12_heard_104]
      by_cases z : w < 0
      · rw [if_pos z, if_pos z, b_X12_heard_108, b_X12_heard_114]
      · rw [if_neg z, if_neg z, b_X12_heard_113, b_X12_heard_114]
  · refine opW_no (r := -1) ?_ ?_
    · rw [e_X11_heard, b_X11_heard_0, c_hasPlace (by omega) (by omega), qB_some, psh_some, b_X11_heard_8, zb_0]
      by_cases g1 : 0 ≤ a ∧ a < 2 * v 11 0
      · rw [if_pos g1, b_X11_heard_11]
        by_cases g2 : w < -1
        · rw [if_pos g2, b_X11_heard_23]
        · rw [if_neg g2, b_X11_heard_16, if_pos (by omega), b_X11_heard_23]
      · rw [if_neg g1, b_X11_heard_23]
    · rw [e_X12_heard, b_X12_heard_0, c_isPlace (by omega) (by omega), qB_some, psh_some, b_X12_heard_6, zb_0, k1]
      by_cases g1 : 0 ≤ a ∧ a < 2 * v 11 0
      · rw [if_pos g1, b_X12_heard_9, c_within, qB_some, psh_some, b_X12_heard_20, zb_0, if_neg (by omega), b_X12_heard_23]
      · rw [if_neg g1, b_X12_heard_23]
end NX
end
section
/-! WHENCE: both answer, and alike -/
section WH
variable {L : Nat} {xs : Nat → Int} {d : Nat} {v : Nat → Nat → Int} {P : Nat}
/-- how many, and the first -/
def wcF (D : Nat → Int) (ap : Int) : Nat → Int × Int
  | 0 => (0, -2)
  | p + 1 => if D p = ap then ((wcF D ap p).1 + 1, if (wcF D ap p).1 = 0 then (p : Int) else (wcF D ap p).2) else wcF D ap p
theorem wcF_in (D : Nat → Int) (ap : Int) : ∀ p : Nat, 0 ≤ (wcF D ap p).1 ∧ (wcF D ap p).1 ≤ (p : Int)
  | 0 => ⟨by show (0 : Int) ≤ 0; omega, by show (0 : Int) ≤ ((0 : Nat) : Int); omega⟩
  | p + 1 => by
    have ih := wcF_in D ap p
    unfold wcF
    split
    · dsimp only
      omega
    · omega
theorem lp_whence {Y a b : Nat} (y mn w ap : Int) (hW : WN v) (hY : v 11 0 = (Y : Int)) (ha : a < 2 * Y) (hb : b < 2 * Y) (y1 : w32 (Int.tdiv y 100) = (a : Int)) (y2 : Int.tmod y 100 = (b : Int)) : ∀ (n p : Nat), p + n = 2 * Y → qG L xs (d + 4) CX11_whence 51 [(2, 0), (0, y), (0, mn), (0, w), (0, ap), (0, (wcF (fun p => hN (v 3) (v 12 0) Y p a - hN (v 3) (v 12 0) Y p b) ap p).2), (0, (wcF (fun p => hN (v 3) (v 12 0) Y p a - hN (v 3) (v 12 0) Y p b) ap p).1), (0, (p : Int))] [] (qS v) = qG L xs (d + 4) CX11_whence 118 [(2, 0), (0, y), (0, mn), (0, w), (0, ap), (0, (wcF (fun p => hN (v 3) (v 12 0) Y p a - hN (v 3) (v 12 0) Y p b) ap (2 * Y)).2), (0, (wcF (fun p => hN (v 3) (v 12 0) Y p a - hN (v 3) (v 12 0) Y p b) ap (2 * Y)).1), (0, ((2 * Y : Nat) : Int))] [] (qS v)
  | 0, p, hp => by
    have q1 := hW.1
    rw [b_X11_whence_51, c_placesNow (by omega) (by omega), qB_some, psh_some, b_X11_whence_60, if_neg (by omega), show p = 2 * Y by omega]
  | n + 1, p, hp => by
    obtain ⟨q1, q2, q3⟩ := hW
    have ih := lp_whence y mn w ap ⟨q1, q2, q3⟩ hY ha hb y1 y2 n (p + 1) (by omega)
    have i1 := hN_in (th := v 3) (tl := v 12 0) (Y := Y) (a := p) (b := a) (by omega) (fun y hy => q2 y (by omega)) q3 (by omega) ha
    have i2 := hN_in (th := v 3) (tl := v 12 0) (Y := Y) (a := p) (b := b) (by omega) (fun y hy => q2 y (by omega)) q3 (by omega) hb
    have e : wcF (fun p => hN (v 3) (v 12 0) Y p a - hN (v 3) (v 12 0) Y p b) ap (p + 1) = if hN (v 3) (v 12 0) Y p a - hN (v 3) (v 12 0) Y p b = ap then ((wcF (fun p => hN (v 3) (v 12 0) Y p a - hN (v 3) (v 12 0) Y p b) ap p).1 + 1, if (wcF (fun p => hN (v 3) (v 12 0) Y p a - hN (v 3) (v 12 0) Y p b) ap p).1 = 0 then (p : Int) else (wcF (fun p => hN (v 3) (v 12 0) Y p a - hN (v 3) (v 12 0) Y p b) ap p).2) else wcF (fun p => hN (v 3) (v 12 0) Y p a - hN (v 3) (v 12 0) Y p b) ap p := rfl
    have hc := wcF_in (fun p => hN (v 3) (v 12 0) Y p a - hN (v 3) (v 12 0) Y p b) ap p
    refine Eq.trans ?_ ih
    rw [e, b_X11_whence_51, c_placesNow (by omega) (by omega), qB_some, psh_some, b_X11_whence_60, if_pos (by omega), b_X11_whence_63, y1, c_hearing ⟨q1, q2, q3⟩ hY (by omega) ha, qB_some, psh_some, b_X11_whence_76, y2, c_hearing ⟨q1, q2, q3⟩ hY (by omega) hb, qB_some, psh_some, b_X11_whence_89, w32_id (z := hN (v 3) (v 12 0) Y p a - hN (v 3) (v 12 0) Y p b) (by omega) (by omega)]
    generalize wcF (fun p => hN (v 3) (v 12 0) Y p a - hN (v 3) (v 12 0) Y p b) ap p = W at hc ⊢
    by_cases g : hN (v 3) (v 12 0) Y p a - hN (v 3) (v 12 0) Y p b = ap
    · rw [if_pos g, if_pos g, b_X11_whence_95]
      dsimp only
      by_cases g2 : W.1 = 0
      · rw [if_pos g2, if_pos g2, b_X11_whence_100, b_X11_whence_107, w32_id (by omega) (by omega), b_X11_whence_112, w32_id (by omega) (by omega)]
        rfl
      · rw [if_neg g2, if_neg g2, b_X11_whence_105, b_X11_whence_107, w32_id (by omega) (by omega), b_X11_whence_112, w32_id (by omega) (by omega)]
        rfl
    · rw [if_neg g, if_neg g, b_X11_whence_112, w32_id (by omega) (by omega)]
      rfl
theorem lp_mwhence {Y a b : Nat} (y mn w ap : Int) (hW : WN v) (hC : v 64 140 = v 11 0) (hY : v 11 0 = (Y : Int)) (ha : a < 2 * Y) (hb : b < 2 * Y) (y1 : w32 (Int.tdiv y 100) = (a : Int)) (y2 : Int.tmod y 100 = (b : Int)) (hap : w32 (w32 (Int.tdiv mn 100) - Int.tmod mn 100) = ap) : ∀ (n p : Nat) (u : Nat → Nat → Int), p + n = 2 * Y → u 64 140 = (Y : Int) → MH u (nT (v 3) (v 12 0) Y) → ∃ u', qG L xs (d + 2) CX12_whence 46 [(2, 63), (0, y), (0, mn), (0, w), (0, (wcF (fun p => hN (v 3) (v 12 0) Y p a - hN (v 3) (v 12 0) Y p b) ap p).1), (0, (wcF (fun p => hN (v 3) (v 12 0) Y p a - hN (v 3) (v 12 0) Y p b) ap p).2), (0, (p : Int))] [] (qS u) = qG L xs (d + 2) CX12_whence 117 [(2, 63), (0, y), (0, mn), (0, w), (0, (wcF (fun p => hN (v 3) (v 12 0) Y p a - hN (v 3) (v 12 0) Y p b) ap (2 * Y)).1), (0, (wcF (fun p => hN (v 3) (v 12 0) Y p a - hN (v 3) (v 12 0) Y p b) ap (2 * Y)).2), (0, ((2 * Y : Nat) : Int))] [] (qS u') ∧ ∀ c, c ≠ 75 → c ≠ 76 → u' c = u c
  | 0, p, u, hp, h64, hM => by
    have q1 := hW.1
    refine ⟨u, ?_, fun _ _ _ => rfl⟩
    rw [b_X12_whence_46, c_yardMany, qB_some, psh_some, b_X12_whence_53, w32_id (by omega) (by omega), if_neg (by omega), show p = 2 * Y by omega]
  | n + 1, p, u, hp, h64, hM => by
    obtain ⟨q1, q2, q3⟩ := hW
    obtain ⟨u1, e1, e2, e3⟩ := m_nfrom (L := L) (xs := xs) (d := d) (s := p) ⟨q1, q2, q3⟩ hY h64 hM (by omega)
    obtain ⟨u', ih, e4⟩ := lp_mwhence y mn w ap ⟨q1, q2, q3⟩ hC hY ha hb y1 y2 hap n (p + 1) u1 (by omega) (by rw [e2 64 (by decide) (by decide)]; exact h64) (MH_cg (e2 74 (by decide) (by decide)) hM)
    refine ⟨u', ?_, fun c h1 h2 => (e4 c h1 h2).trans (e2 c h1 h2)⟩
    have i1 := hN_in (th := v 3) (tl := v 12 0) (Y := Y) (a := p) (b := a) (by omega) (fun y hy => q2 y (by omega)) q3 (by omega) ha
    have i2 := hN_in (th := v 3) (tl := v 12 0) (Y := Y) (a := p) (b := b) (by omega) (fun y hy => q2 y (by omega)) q3 (by omega) hb
    have e : wcF (fun p => hN (v 3) (v 12 0) Y p a - hN (v 3) (v 12 0) Y p b) ap (p + 1) = if hN (v 3) (v 12 0) Y p a - hN (v 3) (v 12 0) Y p b = ap then ((wcF (fun p => hN (v 3) (v 12 0) Y p a - hN (v 3) (v 12 0) Y p b) ap p).1 + 1, if (wcF (fun p => hN (v 3) (v 12 0) Y p a - hN (v 3) (v 12 0) Y p b) ap p).1 = 0 then (p : Int) else (wcF (fun p => hN (v 3) (v 12 0) Y p a - hN (v 3) (v 12 0) Y p b) ap p).2) else wcF (fun p => hN (v 3) (v 12 0) Y p a - hN (v 3) (v 12 0) Y p b) ap p := rfl
    have hc := wcF_in (fun p => hN (v 3) (v 12 0) Y p a - hN (v 3) (v 12 0) Y p b) ap p
    have r1 := e3 a ha
    have r2 := e3 b hb
    have a1 : qG L xs (d + 2) CX12_whence 46 [(2, 63), (0, y), (0, mn), (0, w), (0, (wcF (fun p => hN (v 3) (v 12 0) Y p a - hN (v 3) (v 12 0) Y p b) ap p).1), (0, (wcF (fun p => hN (v 3) (v 12 0) Y p a - hN (v 3) (v 12 0) Y p b) ap p).2), (0, (p : Int))] [] (qS u) = (if hN (v 3) (v 12 0) Y p a - hN (v 3) (v 12 0) Y p b = ap then qG L xs (d + 2) CX12_whence 94 [(2, 63), (0, y), (0, mn), (0, w), (0, (wcF (fun p => hN (v 3) (v 12 0) Y p a - hN (v 3) (v 12 0) Y p b) ap p).1), (0, (wcF (fun p => hN (v 3) (v 12 0) Y p a - hN (v 3) (v 12 0) Y p b) ap p).2), (0, (p : Int))] [] (qS u1) else qG L xs (d + 2) CX12_whence 111 [(2, 63), (0, y), (0, mn), (0, w), (0, (wcF (fun p => hN (v 3) (v 12 0) Y p a - hN (v 3) (v 12 0) Y p b) ap p).1), (0, (wcF (fun p => hN (v 3) (v 12 0) Y p a - hN (v 3) (v 12 0) Y p b) ap p).2), (0, (p : Int))] [] (qS u1)) := by
      rw [b_X12_whence_46, c_yardMany, qB_some, psh_some, b_X12_whence_53, w32_id (by omega) (by omega), if_pos (by omega), b_X12_whence_57, e1, qB_some, psh_none, b_X12_whence_63, y1, if_pos (by omega), Int.toNat_natCast, r1, b_X12_whence_72, y2, if_pos (by omega), Int.toNat_natCast, r2, b_X12_whence_81, hap, w32_id (by omega) (by omega)]
    refine Eq.trans ?_ ih
    rw [a1, e]
    generalize wcF (fun p => hN (v 3) (v 12 0) Y p a - hN (v 3) (v 12 0) Y p b) ap p = W at hc ⊢
    by_cases g : hN (v 3) (v 12 0) Y p a - hN (v 3) (v 12 0) Y p b = ap
    · rw [if_pos g, if_pos g, b_X12_whence_94]
      dsimp only
      by_cases g2 : W.1 = 0
      · rw [if_pos g2, if_pos g2, b_X12_whence_99, b_X12_whence_106, w32_id (by omega) (by omega), b_X12_whence_111, w32_id (by omega) (by omega)]
        rfl
      · rw [if_neg g2, if_neg g2, b_X12_whence_104, b_X12_whence_106, w32_id (by omega) (by omega), b_X12_whence_111, w32_id (by omega) (by omega)]
        rfl
    · rw [if_neg g, if_neg g, b_X12_whence_111, w32_id (by omega) (by omega)]
      rfl
theorem op_whence (hW : WN v) (hC : CN v) (y mn w : Int) (hy : y < 2147483648) : opW L xs d v nX11_whence nX12_whence [(0, y), (0, mn), (0, w)] := by
  have hW0 := hW
  obtain ⟨q1, q2, q3⟩ := hW0
  have k1 := hC.1
  obtain ⟨Y, hY⟩ : ∃ Y : Nat, v 11 0 = (Y : Int) := ⟨(v 11 0).toNat, by omega⟩
  by_cases g : (0 ≤ y ∧ y / 100 < 2 * v 11 0 ∧ y % 100 < 2 * v 11 0) ∧ (0 ≤ mn ∧ mn ≤ 9999) ∧ 0 ≤ w ∧ w ≤ 1
  · obtain ⟨a, ha⟩ : ∃ a : Nat, y / 100 = (a : Int) := ⟨(y / 100).toNat, by omega⟩
    obtain ⟨b, hb⟩ : ∃ b : Nat, y % 100 = (b : Int) := ⟨(y % 100).toNat, by omega⟩
    have y1 : w32 (Int.tdiv y 100) = (a : Int) := by rw [td_pos 100 (by omega), w32_id (by omega) (by omega), ha]
    have y2 : Int.tmod y 100 = (b : Int) := by rw [tm_pos 100 (by omega), hb]
    obtain ⟨ap, hap⟩ : ∃ ap, w32 (w32 (Int.tdiv mn 100) - Int.tmod mn 100) = ap := ⟨_, rfl⟩
    obtain ⟨v1, e1, e2, e3⟩ := m_asksNews (L := L) (xs := xs) (d := d + 95) hW hC hY
    have h64 : v1 64 140 = (Y : Int) := by rw [e2 64 (by decide)]; omega
    have l1 := lp_whence (L := L) (xs := xs) (d := d + 95) (v := v) y mn w ap hW hY (a := a) (b := b) (by omega) (by omega) y1 y2 (2 * Y) 0 (by omega)
    obtain ⟨v2, l2, e5⟩ := lp_mwhence (L := L) (xs := xs) (d := d + 97) (v := v) y mn w ap hW k1 hY (a := a) (b := b) (by omega) (by omega) y1 y2 hap (2 * Y) 0 v1 (by omega) h64 e3
    refine ⟨if w = 0 then (wcF (fun p => hN (v 3) (v 12 0) Y p a - hN (v 3) (v 12 0) Y p b) ap (2 * Y)).1 else (wcF (fun p => hN (v 3) (v 12 0) Y p a - hN (v 3) (v 12 0) Y p b) ap (2 * Y)).2, v, v2, ?_, fW_r v, ?_, fP_t (fA_P (fA_74 e2)) (fP_75 e5)⟩
    · rw [e_X11_whence, b_X11_whence_0, c_arePlaces (by omega) (by omega) y hy, qB_some, psh_some, b_X11_whence_5, zb_0, if_pos g.1, b_X11_whence_8, if_neg (by omega), b_X11_whence_12, if_neg (by omega), b_X11_whence_19, if_neg (by omega), b_X11_whence_23, if_neg (by omega), b_X11_whence_30, hap]
      refine Eq.trans l1 ?_
      rw [b_X11_whence_118]
      by_cases z : w = 0
      · rw [if_pos z, if_pos z, b_X11_whence_122, b_X11_whence_129]
      · rw [if_neg z, if_neg z, b_X11_whence_127, b_X11_whence_129]
    · rw [e_X12_whence, b_X12_whence_0, m_isAb (by omega) (by omega) y hy, qB_some, psh_some, b_X12_whence_5, zb_0, if_pos (by omega), b_X12_whence_8, c_within, qB_some, psh_some, b_X12_whence_17, zb_0, if_pos g.2.1, b_X12_whence_20, c_within, qB_some, psh_some, b_X12_whence_27, zb_0, if_pos g.2.2, b_X12_whence_32, e1, qB_some, psh_none, b_X12_whence_36]
      refine Eq.trans l2 ?_
      rw [b_X12_whence_117]
      by_cases z : w = 0
      · rw [if_pos z, if_pos z, b_X12_whence_121, b_X12_whence_128]
      · rw [if_neg z, if_neg z, b_X12_whence_126, b_X12_whence_128]
  · refine opW_no (r := -1) ?_ ?_
    · rw [e_X11_whence, b_X11_whence_0, c_arePlaces (by omega) (by omega) y hy, qB_some, psh_some, b_X11_whence_5, zb_0]
      by_cases g1 : 0 ≤ y ∧ y / 100 < 2 * v 11 0 ∧ y % 100 < 2 * v 11 0
      · rw [if_pos g1, b_X11_whence_8]
        by_cases g2 : mn < 0
        · rw [if_pos g2, b_X11_whence_28]
        · rw [if_neg g2, b_X11_whence_12]
          by_cases g3 : 9999 < mn
          · rw [if_pos g3, b_X11_whence_28]
          · rw [if_neg g3, b_X11_whence_19]
            by_cases g4 : w < 0
            · rw [if_pos g4, b_X11_whence_28]
            · rw [if_neg g4, b_X11_whence_23, if_pos (by omega), b_X11_whence_28]
      · rw [if_neg g1, b_X11_whence_28]
    · rw [e_X12_whence, b_X12_whence_0, m_isAb (by omega) (by omega) y hy, qB_some, psh_some, b_X12_whence_5, zb_0, k1]
      by_cases g1 : 0 ≤ y ∧ y / 100 < 2 * v 11 0 ∧ y % 100 < 2 * v 11 0
      · rw [if_pos g1, b_X12_whence_8, c_within, qB_some, psh_some, b_X12_whence_17, zb_0]
        by_cases g2 : 0 ≤ mn ∧ mn ≤ 9999
        · rw [if_pos g2, b_X12_whence_20, c_within, qB_some, psh_some, b_X12_whence_27, zb_0, if_neg (by omega), b_X12_whence_30]
        · rw [if_neg g2, b_X12_whence_30]
      · rw [if_neg g1, b_X12_whence_30]
end WH
end
