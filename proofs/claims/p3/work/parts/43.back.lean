/-! WAYS: spreading back tells the minutes from each to a place -/
section SB
variable {L : Nat} {xs : Nat → Int} {d : Nat} {v : Nat → Nat → Int}
/-- the steps, the other way round -/
def EB (v : Nat → Nat → Int) (S : Nat) (a b : Nat) (k : Int) : Prop := EC v S (-1) b a k
theorem EB_ok {S P : Nat} (h : WOK v S P) : Okg (EB v S) P 99 := fun a b k he => by
  have := EC_ok h b a k he
  omega
theorem EB_cg {v w : Nat → Nat → Int} {S : Nat} (hc : ∀ c, c ≠ 34 → w c = v c) : EB w S = EB v S := by
  unfold EB
  rw [EC_cg hc]
def SwB (v : Nat → Nat → Int) (S P s : Nat) (m0 m : Nat → Int) (near : Int) (i : Nat) : Prop := Jn (EB v S) P s m ∧ (∀ p, m p ≤ m0 p) ∧ (∀ t, i ≤ t → t < S → m (v 30 t).toNat ≤ m0 (v 31 t).toNat + v 32 t) ∧ (near = 0 ∨ near = 1) ∧ (near = 0 → m = m0)
theorem swb_step {S P s : Nat} {m0 m : Nat → Int} {near : Int} {i : Nat} (h : WOK v S P) (hi : i < S) (hw : SwB v S P s m0 m near (i + 1)) (hl : m (v 31 i).toNat + v 32 i < m (v 30 i).toNat) : SwB v S P s m0 (fun p => if p = (v 30 i).toNat then m (v 31 i).toNat + v 32 i else m p) 1 i := by
  obtain ⟨⟨j1, j2, j3⟩, w2, w3, w4, w5⟩ := hw
  obtain ⟨g1, g2, g3, g4⟩ := h.2.2.2.2 i hi
  have k1 := j2 (v 31 i).toNat (by omega)
  have k2 := j2 (v 30 i).toNat (by omega)
  have k3 : (v 30 i).toNat ≠ s := fun q => by rw [q, j1] at hl; omega
  refine ⟨⟨?_, fun p hp => ?_, fun p hp hm => ?_⟩, fun p => ?_, fun t ht ht2 => ?_, Or.inr rfl, fun q => absurd q (by decide)⟩
  · dsimp only
    rw [if_neg (fun q => k3 q.symm)]
    exact j1
  · dsimp only
    have := j2 p hp
    split
    · omega
    · omega
  · dsimp only at hm ⊢
    by_cases hq : p = (v 30 i).toNat
    · rw [if_pos hq]
      obtain ⟨n, hn⟩ := j3 (v 31 i).toNat (by omega) (by omega)
      refine ⟨n + 1, ?_⟩
      rw [hq]
      exact Wk_snoc hn ⟨i, hi, by omega, by omega, rfl, Or.inl rfl⟩
    · rw [if_neg hq] at hm ⊢
      exact j3 p hp hm
  · dsimp only
    have := w2 p
    have h2 := w2 (v 30 i).toNat
    by_cases hq : p = (v 30 i).toNat
    · rw [if_pos hq, hq]; omega
    · rw [if_neg hq]; exact this
  · dsimp only
    have h2 := w2 (v 31 i).toNat
    by_cases ht3 : t = i
    · subst ht3
      rw [if_pos rfl]
      omega
    · have h3 := w3 t (by omega) ht2
      by_cases hq : (v 30 t).toNat = (v 30 i).toNat
      · rw [if_pos hq]
        rw [hq] at h3
        omega
      · rw [if_neg hq]
        exact h3
theorem swb_skip {S P s : Nat} {m0 m : Nat → Int} {near : Int} {i : Nat} (hw : SwB v S P s m0 m near (i + 1)) (hx : ¬ m (v 31 i).toNat + v 32 i < m (v 30 i).toNat) : SwB v S P s m0 m near i := by
  obtain ⟨j, w2, w3, w4, w5⟩ := hw
  refine ⟨j, w2, fun t ht ht2 => ?_, w4, w5⟩
  by_cases ht3 : t = i
  · subst ht3
    have h2 := w2 (v 31 t).toNat
    omega
  · exact w3 t (by omega) ht2
theorem SwB_cg {v w : Nat → Nat → Int} {S P s : Nat} {m0 m : Nat → Int} {near : Int} {i : Nat} (hc : ∀ c, c ≠ 34 → w c = v c) (h : SwB v S P s m0 m near i) : SwB w S P s m0 m near i := by
  unfold SwB
  rw [EB_cg hc, hc 30 (by decide), hc 31 (by decide), hc 32 (by decide)]
  exact h
theorem lp_sweepB {S P s : Nat} {m0 : Nat → Int} (k : Int) : ∀ (i : Nat) (v : Nat → Nat → Int) (near : Int) (u5 : pm_V), i ≤ S → WOK v S P → SwB v S P s m0 (v 34) near i → ∃ v' near' w5, qG L xs d CX10_spreadBack 29 [(2, 29), (0, (s : Int)), (0, near), (0, k), (0, (i : Int) - 1), u5] [] (qS v) = qG L xs d CX10_spreadBack 95 [(2, 29), (0, (s : Int)), (0, near'), (0, k), (0, -1), w5] [] (qS v') ∧ (∀ c, c ≠ 34 → v' c = v c) ∧ SwB v' S P s m0 (v' 34) near' 0
  | 0, v, near, u5, hi, h, hw => by
    refine ⟨v, near, u5, ?_, fun _ _ => rfl, hw⟩
    rw [b_X10_spreadBack_29, if_pos (by omega), show ((0 : Nat) : Int) - 1 = -1 by omega]
  | i + 1, v, near, u5, hi, h, hw => by
    obtain ⟨g1, g2, g3, g4⟩ := h.2.2.2.2 i (by omega)
    have hS2 := h.2.1
    have hP := h.2.2.2.1
    have k1 := hw.1.2.1 (v 30 i).toNat (by omega)
    have k2 := hw.1.2.1 (v 31 i).toNat (by omega)
    rw [show ((i + 1 : Nat) : Int) - 1 = (i : Int) by omega]
    have a2 : qG L xs d CX10_spreadBack 29 [(2, 29), (0, (s : Int)), (0, near), (0, k), (0, (i : Int)), u5] [] (qS v) = qG L xs d CX10_spreadBack 70 [(2, 29), (0, (s : Int)), (0, near), (0, k), (0, (i : Int)), (0, v 34 (v 31 i).toNat + v 32 i)] [(0, v 34 (v 30 i).toNat), (0, v 34 (v 31 i).toNat + v 32 i)] (qS v) := by
      simp (disch := omega) only [b_X10_spreadBack_29, b_X10_spreadBack_34, b_X10_spreadBack_45, b_X10_spreadBack_46, b_X10_spreadBack_53, b_X10_spreadBack_69, if_pos, if_neg, w32_id, Int.toNat_natCast]
    by_cases hl : v 34 (v 31 i).toNat + v 32 i < v 34 (v 30 i).toNat
    · have hu : ∀ c, c ≠ 34 → pm_up v 34 (v 30 i).toNat (v 34 (v 31 i).toNat + v 32 i) c = v c := fun c hc => up_cell hc
      have hw2 := swb_step h (by omega) hw hl
      rw [← up_fn 34 (v 30 i).toNat (v 34 (v 31 i).toNat + v 32 i)] at hw2
      obtain ⟨v', near', w5, e1, e2, e3⟩ := lp_sweepB k i (pm_up v 34 (v 30 i).toNat (v 34 (v 31 i).toNat + v 32 i)) 1 (0, v 34 (v 31 i).toNat + v 32 i) (by omega) (WOK_cg hu h) (SwB_cg hu hw2)
      refine ⟨v', near', w5, ?_, fun c hc => (e2 c hc).trans (hu c hc), e3⟩
      refine Eq.trans ?_ e1
      rw [a2]
      conv => lhs; simp (disch := omega) only [b_X10_spreadBack_70, b_X10_spreadBack_73, b_X10_spreadBack_84, b_X10_spreadBack_87, if_pos, Int.toNat_natCast]
      rw [b_X10_spreadBack_89, w32_id (by omega) (by omega)]
      rfl
    · obtain ⟨v', near', w5, e1, e2, e3⟩ := lp_sweepB k i v near (0, v 34 (v 31 i).toNat + v 32 i) (by omega) h (swb_skip hw hl)
      refine ⟨v', near', w5, ?_, e2, e3⟩
      refine Eq.trans ?_ e1
      rw [a2, b_X10_spreadBack_70, if_neg hl, b_X10_spreadBack_89, w32_id (by omega) (by omega)]
      rfl
theorem lp_sweepsB {S P s : Nat} (hs : s < P) : ∀ (n k : Nat) (v : Nat → Nat → Int) (near : Int) (u4 u5 : pm_V), k + n = 60 → WOK v S P → Jn (EB v S) P s (v 34) → (∀ t p w, t ≤ k → Wk (EB v S) t s p w → v 34 p ≤ w) → (near = 0 → ∀ t, t < S → v 34 (v 30 t).toNat ≤ v 34 (v 31 t).toNat + v 32 t) → ∃ v', qG L xs d CX10_spreadBack 9 [(2, 29), (0, (s : Int)), (0, near), (0, (k : Int)), u4, u5] [] (qS v) = some (none, qS v') ∧ (∀ c, c ≠ 34 → v' c = v c) ∧ IsD (EB v S) P s 9999 (v' 34)
  | 0, k, v, near, u4, u5, hk, h, hj, hd, hn => by
    refine ⟨v, ?_, fun _ _ => rfl, Jn_IsD hj (fun a b c he ha => ?_)⟩
    · rw [b_X10_spreadBack_9, if_neg (by omega), b_X10_spreadBack_101]
    · have hE := EB_ok h
      have hP := h.2.2.2.1
      obtain ⟨t, ht⟩ := hj.2.2 a (hE _ _ _ he).1 ha
      obtain ⟨t', w', g1, g2, g3⟩ := Wk_cut hE hs _ _ _ _ (Nat.le_refl _) (Wk_snoc ht he)
      have := hd t' b w' (by omega) g3
      omega
  | n + 1, k, v, near, u4, u5, hk, h, hj, hd, hn => by
    by_cases h0 : near = 0
    · refine ⟨v, ?_, fun _ _ => rfl, Jn_IsD hj (fun a b c he ha => ?_)⟩
      · rw [b_X10_spreadBack_9, if_pos (by omega), b_X10_spreadBack_15, if_pos h0, b_X10_spreadBack_101]
      · obtain ⟨t, ht, h1, h2, h3, h4⟩ := he
        have := hn h0 t ht
        rw [h1, h2, h3, Int.toNat_natCast, Int.toNat_natCast] at this
        exact this
    · have hS1 := h.1
      have hS2 := h.2.1
      obtain ⟨v1, near1, w5, e1, e2, e3⟩ := lp_sweepB (L := L) (xs := xs) (d := d) (m0 := v 34) (s := s) (P := P) (S := S) (k : Int) S v 0 u5 (by omega) h ⟨hj, fun p => Int.le_refl _, fun t ht ht2 => absurd ht (by omega), Or.inl rfl, fun _ => rfl⟩
      obtain ⟨k1, k2, k3, k4, k5⟩ := e3
      have hc := EB_cg (S := S) e2
      obtain ⟨v', e4, e5, e6⟩ := lp_sweepsB hs n (k + 1) v1 near1 (0, -1) w5 (by omega) (WOK_cg e2 h) k1 (fun t p w ht hw => by
        rw [hc] at hw
        cases t with
        | zero =>
          obtain ⟨f, c, a1, a2, a3, a4, a5⟩ := hw
          rw [← a3, a1, k1.1]
          omega
        | succ t =>
          obtain ⟨q, c, a1, a2⟩ := Wk_init hw
          have b1 := hd t q (w - c) (by omega) a1
          obtain ⟨i, hi, c1, c2, c3, c4⟩ := a2
          have b2 := k3 i (by omega) hi
          rw [e2 30 (by decide), e2 31 (by decide), e2 32 (by decide), c1, c2, c3, Int.toNat_natCast, Int.toNat_natCast] at b2
          omega) (fun hz t ht => by
        have b2 := k3 t (by omega) ht
        have b3 := k5 hz
        rw [← b3] at b2
        exact b2)
      rw [hc] at e6
      refine ⟨v', ?_, fun c hc2 => (e5 c hc2).trans (e2 c hc2), e6⟩
      rw [b_X10_spreadBack_9, if_pos (by omega), b_X10_spreadBack_15, if_neg h0, b_X10_spreadBack_19, hS1, w32_id (by omega) (by omega)]
      refine Eq.trans e1 ?_
      rw [b_X10_spreadBack_95, w32_id (by omega) (by omega), show (k : Int) + 1 = ((k + 1 : Nat) : Int) by omega]
      exact e4
theorem c_spreadBack {S P s : Nat} (h : WOK v S P) (hs : s < P) : ∃ v', qE L xs (d + 3) nX10_spreadBack [(2, 29), (0, (s : Int))] (qS v) = some (none, qS v') ∧ (∀ c, c ≠ 34 → v' c = v c) ∧ IsD (EB v S) P s 9999 (v' 34) := by
  have hP := h.2.2.2.1
  obtain ⟨v1, e1, e2, e3, e4⟩ := c_startAt (L := L) (xs := xs) (d := d) h hs
  have hc := EB_cg (S := S) e2
  obtain ⟨v', e5, e6, e7⟩ := lp_sweepsB (L := L) (xs := xs) (d := d + 2) (S := S) hs 60 0 v1 1 (9, 0) (9, 0) (by omega) (WOK_cg e2 h) ⟨e3, fun p hp => by
    by_cases hps : p = s
    · rw [hps, e3]; omega
    · rw [e4 p (by omega) hps]; omega, fun p hp hm => by
    by_cases hps : p = s
    · rw [hps, e3]; exact ⟨0, Wk_0 s⟩
    · rw [e4 p (by omega) hps] at hm; omega⟩ (fun t p w ht hw => by
    have ht0 : t = 0 := by omega
    subst ht0
    obtain ⟨f, c, a1, a2, a3, a4, a5⟩ := hw
    rw [← a3, a1, e3]
    omega) (fun q => absurd q (by decide))
  rw [hc] at e7
  refine ⟨v', ?_, fun c hc2 => (e6 c hc2).trans (e2 c hc2), e7⟩
  rw [e_X10_spreadBack, b_X10_spreadBack_0, e1, qB_some, psh_none, b_X10_spreadBack_5]
  exact e5
end SB
