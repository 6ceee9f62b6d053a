/-! WAYS: all sweeps; spread() tells the minutes -/
section SQ
variable {L : Nat} {xs : Nat → Int} {d : Nat} {v : Nat → Nat → Int}
theorem Jn_IsD {E : Nat → Nat → Int → Prop} {P s : Nat} {m : Nat → Int} (h : Jn E P s m) (hf : ∀ a b k, E a b k → m a < 9999 → m b ≤ m a + k) : IsD E P s 9999 m := ⟨h.1, hf, h.2.2, fun p hp => (h.2.1 p hp).2⟩
theorem lp_sweeps {S P s : Nat} {x : Int} (hs : s < P) : ∀ (n k : Nat) (v : Nat → Nat → Int) (near : Int) (u5 u6 u7 : pm_V), k + n = 60 → WOK v S P → Jn (EC v S x) P s (v 34) → (∀ t p w, t ≤ k → Wk (EC v S x) t s p w → v 34 p ≤ w) → (near = 0 → ∀ t, t < S → (x = -1 ∨ v 33 t ≠ x) → v 34 (v 31 t).toNat ≤ v 34 (v 30 t).toNat + v 32 t) → ∃ v', qG L xs d CX10_spread 10 [(2, 29), (0, (s : Int)), (0, x), (0, near), (0, (k : Int)), u5, u6, u7] [] (qS v) = some (none, qS v') ∧ (∀ c, c ≠ 34 → v' c = v c) ∧ IsD (EC v S x) P s 9999 (v' 34)
  | 0, k, v, near, u5, u6, u7, hk, h, hj, hd, hn => by
    refine ⟨v, ?_, fun _ _ => rfl, Jn_IsD hj (fun a b c he ha => ?_)⟩
    · rw [b_X10_spread_10, if_neg (by omega), b_X10_spread_130]
    · have hE := EC_ok (x := x) h
      have hP := h.2.2.2.1
      obtain ⟨t, ht⟩ := hj.2.2 a (hE _ _ _ he).1 ha
      obtain ⟨t', w', g1, g2, g3⟩ := Wk_cut hE hs _ _ _ _ (Nat.le_refl _) (Wk_snoc ht he)
      have := hd t' b w' (by omega) g3
      omega
  | n + 1, k, v, near, u5, u6, u7, hk, h, hj, hd, hn => by
    by_cases h0 : near = 0
    · refine ⟨v, ?_, fun _ _ => rfl, Jn_IsD hj (fun a b c he ha => ?_)⟩
      · rw [b_X10_spread_10, if_pos (by omega), b_X10_spread_17, if_pos h0, b_X10_spread_130]
      · obtain ⟨t, ht, h1, h2, h3, h4⟩ := he
        have := hn h0 t ht h4
        rw [h1, h2, h3, Int.toNat_natCast, Int.toNat_natCast] at this
        exact this
    · obtain ⟨v1, near1, w6, w7, e1, e2, e3⟩ := lp_sweep (L := L) (xs := xs) (d := d) (m0 := v 34) (x := x) hs (k : Int) S 0 v 0 u6 u7 (by omega) h ⟨hj, fun p => Int.le_refl _, fun t ht => absurd ht (by omega), Or.inl rfl, fun _ => rfl⟩
      obtain ⟨k1, k2, k3, k4, k5⟩ := e3
      have hc := EC_cg (S := S) (x := x) e2
      obtain ⟨v', e4, e5, e6⟩ := lp_sweeps hs n (k + 1) v1 near1 (0, (S : Int)) w6 w7 (by omega) (WOK_cg e2 h) k1 (fun t p w ht hw => by
        rw [hc] at hw
        cases t with
        | zero =>
          obtain ⟨f, c, a1, a2, a3, a4, a5⟩ := hw
          rw [← a3, a1, k1.1]
          omega
        | succ t =>
          obtain ⟨q, c, a1, a2⟩ := Wk_init hw
          have b1 := hd t q (w - c) (by omega) a1
          obtain ⟨i, hi, c1, c2, c3, c4⟩ := a2
          have b2 := k3 i hi (by rw [e2 33 (by decide)]; exact c4)
          rw [e2 30 (by decide), e2 31 (by decide), e2 32 (by decide), c1, c2, c3, Int.toNat_natCast, Int.toNat_natCast] at b2
          omega) (fun hz t ht htx => by
        have b2 := k3 t ht htx
        have b3 := k5 hz
        rw [← b3] at b2
        exact b2)
      rw [hc] at e6
      refine ⟨v', ?_, fun c hc2 => (e5 c hc2).trans (e2 c hc2), e6⟩
      rw [b_X10_spread_10, if_pos (by omega), b_X10_spread_17, if_neg h0, b_X10_spread_21]
      refine Eq.trans e1 ?_
      rw [b_X10_spread_124, w32_id (by omega) (by omega), show (k : Int) + 1 = ((k + 1 : Nat) : Int) by omega]
      exact e4
theorem c_startAt {S P s : Nat} (h : WOK v S P) (hs : s < P) : ∃ v', qE L xs (d + 2) nX10_startAt [(2, 29), (0, (s : Int))] (qS v) = some (none, qS v') ∧ (∀ c, c ≠ 34 → v' c = v c) ∧ v' 34 s = 0 ∧ ∀ p, p < 60 → p ≠ s → v' 34 p = 9999 := by
  have hP := h.2.2.2.1
  have hu : ∀ c, c ≠ 34 → pm_fl v 34 0 60 9999 c = v c := fun c hc => by
    funext i
    exact if_neg (fun q => hc q.1)
  have r1 : qE L xs (d + 1) nJ7_fill_53178 [(2, 34), (0, 9999)] (qS v) = some (none, qS (pm_fl v 34 0 60 9999)) := q_fill (c := 34) (by decide) rfl (by decide) (nr_of rfl)
  refine ⟨pm_up (pm_fl v 34 0 60 9999) 34 s 0, ?_, fun c hc => (up_cell hc).trans (hu c hc), up_eq _ _ _ _, fun p hp hps => ?_⟩
  · rw [e_X10_startAt, b_X10_startAt_0, r1, qB_some, psh_none, b_X10_startAt_10, c_isThere (WOK_cg hu h), qB_some, psh_some, b_X10_startAt_15, zb_0, if_pos (by omega), b_X10_startAt_18, if_pos (by omega), Int.toNat_natCast, b_X10_startAt_25]
  · rw [up_ne (Or.inr hps)]
    exact if_pos (by omega)
/-- from a place to each, without a crossing (or -1) -/
theorem c_spread {S P s : Nat} {x : Int} (h : WOK v S P) (hs : s < P) : ∃ v', qE L xs (d + 3) nX10_spread [(2, 29), (0, (s : Int)), (0, x)] (qS v) = some (none, qS v') ∧ (∀ c, c ≠ 34 → v' c = v c) ∧ IsD (EC v S x) P s 9999 (v' 34) := by
  have hP := h.2.2.2.1
  obtain ⟨v1, e1, e2, e3, e4⟩ := c_startAt (L := L) (xs := xs) (d := d) h hs
  have hc := EC_cg (S := S) (x := x) e2
  obtain ⟨v', e5, e6, e7⟩ := lp_sweeps (L := L) (xs := xs) (d := d + 2) (x := x) hs 60 0 v1 1 (9, 0) (9, 0) (9, 0) (by omega) (WOK_cg e2 h) ⟨e3, fun p hp => by
    by_cases hps : p = s
    · rw [hps, e3]; omega
    · rw [e4 p (by omega) hps]; omega, fun p hp hm => by
    by_cases hps : p = s
    · rw [hps, e3]; exact ⟨0, Wk_0 s⟩
    · rw [e4 p (by omega) hps] at hm; omega⟩ (fun t p w ht hw => by
    have ht0 : t = 0 := by omega
    subst ht0
    obtain ⟨f, c, a1, a2, a3, a4, a5⟩ := hw
    rw [← a3, a1, e3]
    omega) (fun q => absurd q (by decide))
  rw [hc] at e7
  refine ⟨v', ?_, fun c hc2 => (e6 c hc2).trans (e2 c hc2), e7⟩
  rw [e_X10_spread, b_X10_spread_0, e1, qB_some, psh_none, b_X10_spread_5]
  exact e5
end SQ
