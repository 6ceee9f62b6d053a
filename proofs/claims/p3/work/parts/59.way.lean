/-! WAY: its minutes, and its first step -/
section WY
variable {L : Nat} {xs : Nat → Int} {d : Nat} {v : Nat → Nat → Int} {c : Nat → Nat → Nat → Int} {P : Nat}
theorem Wk_app {E : Nat → Nat → Int → Prop} {n s p : Nat} {w : Int} (h : Wk E n s p w) : ∀ {n' q : Nat} {w' : Int}, Wk E n' p q w' → Wk E (n + n') s q (w + w')
  | 0, q, w', h' => by
    obtain ⟨f, c, h1, h2, h3, h4, h5⟩ := h'
    rw [← h3, ← h4, h1, h2, Int.add_zero]
    exact h
  | n' + 1, q, w', h' => by
    obtain ⟨r, k, h1, he⟩ := Wk_init h'
    have := Wk_snoc (Wk_app h h1) he
    rw [show w + (w' - k) + k = w + w' by omega] at this
    exact this
theorem Wk_cons {E : Nat → Nat → Int → Prop} {n a p q : Nat} {k w : Int} (he : E a p k) (h : Wk E n p q w) : Wk E (0 + 1 + n) a q (k + w) := by
  have := Wk_app (Wk_snoc (Wk_0 a) he) h
  rw [show 0 + k + w = k + w by omega] at this
  exact this
/-- r is the first with Q below P, or -2 -/
def Fst (P : Nat) (Q : Nat → Prop) (r : Int) : Prop := (∃ p : Nat, p < P ∧ Q p ∧ (∀ q, q < p → ¬ Q q) ∧ r = (p : Int)) ∨ ((∀ p, p < P → ¬ Q p) ∧ r = -2)
theorem Fst_one {Q Q' : Nat → Prop} {r r' : Int} (h : Fst P Q r) (h' : Fst P Q' r') (hQ : ∀ p, p < P → (Q p ↔ Q' p)) : r' = r := by
  rcases h with ⟨p, h1, h2, h3, h4⟩ | ⟨h1, h2⟩
  · rcases h' with ⟨p', g1, g2, g3, g4⟩ | ⟨g1, g2⟩
    · by_cases a : p < p'
      · exact absurd ((hQ p h1).mp h2) (g3 p a)
      · by_cases b : p' < p
        · exact absurd ((hQ p' g1).mpr g2) (h3 p' b)
        · omega
    · exact absurd ((hQ p h1).mp h2) (g1 p h1)
  · rcases h' with ⟨p', g1, g2, g3, g4⟩ | ⟨g1, g2⟩
    · exact absurd ((hQ p' g1).mpr g2) (h1 p' g1)
    · omega
/-- a laid step that a way from a place may begin with -/
def fsH (v : Nat → Nat → Int) (a t : Nat) : Prop := v 30 t = (a : Int) ∧ v 34 (v 31 t).toNat + v 32 t = v 34 a
def fsI (v : Nat → Nat → Int) (P a i : Nat) (x : Int) : Prop := (x = (P : Int) ∧ ∀ t, t < i → ¬ fsH v a t) ∨ (x < (P : Int) ∧ (∃ t, t < i ∧ fsH v a t ∧ v 31 t = x) ∧ ∀ t, t < i → fsH v a t → x ≤ v 31 t)
theorem lp_first {S a : Nat} (h : WOK v S P) (ha : a < P) (hm : ∀ p, p < P → 0 ≤ v 34 p ∧ v 34 p ≤ 9999) : ∀ (n i : Nat) (x : Int), i + n = S → fsI v P a i x → ∃ x', qG L xs (d + 1) CX10_firstStep 7 [(2, 29), (0, (a : Int)), (0, x), (0, (i : Int))] [] (qS v) = qG L xs (d + 1) CX10_firstStep 69 [(2, 29), (0, (a : Int)), (0, x'), (0, (S : Int))] [] (qS v) ∧ fsI v P a S x'
  | 0, i, x, hi, hI => by
    have hS := h.1
    have e : i = S := by omega
    subst e
    refine ⟨x, ?_, hI⟩
    rw [b_X10_firstStep_7, if_neg (by omega)]
  | n + 1, i, x, hi, hI => by
    obtain ⟨hS, hS2, hP, hP2, h5⟩ := h
    have h0 : WOK v S P := ⟨hS, hS2, hP, hP2, h5⟩
    obtain ⟨g1, g2, g3, g4⟩ := h5 i (by omega)
    have m1 := hm (v 31 i).toNat (by omega)
    have skip : ¬ fsH v a i → fsI v P a (i + 1) x := fun hn => by
      rcases hI with ⟨k1, k2⟩ | ⟨k0, ⟨t, k1, k2, k3⟩, k4⟩
      · exact Or.inl ⟨k1, fun t ht => by
          by_cases e : t = i
          · rw [e]; exact hn
          · exact k2 t (by omega)⟩
      · exact Or.inr ⟨k0, ⟨t, by omega, k2, k3⟩, fun t ht hf => by
          by_cases e : t = i
          · rw [e] at hf; exact absurd hf hn
          · exact k4 t (by omega) hf⟩
    by_cases q : v 30 i = (a : Int)
    · have a1 : qG L xs (d + 1) CX10_firstStep 7 [(2, 29), (0, (a : Int)), (0, x), (0, (i : Int))] [] (qS v) = qG L xs (d + 1) CX10_firstStep 49 [(2, 29), (0, (a : Int)), (0, x), (0, (i : Int))] [(0, v 34 a), (0, v 34 (v 31 i).toNat + v 32 i)] (qS v) := by
        rw [b_X10_firstStep_7, if_pos (by omega), b_X10_firstStep_15, if_pos (by omega), Int.toNat_natCast, b_X10_firstStep_21, if_pos q, b_X10_firstStep_25, if_pos (by omega), Int.toNat_natCast, b_X10_firstStep_35, if_pos (by omega), b_X10_firstStep_36, if_pos (by omega), Int.toNat_natCast, b_X10_firstStep_42, if_pos (by omega), Int.toNat_natCast, w32_id (by omega) (by omega)]
      by_cases q2 : v 34 (v 31 i).toNat + v 32 i = v 34 a
      · have hI2 : fsI v P a (i + 1) (pm_min x (v 31 i)) := by
          refine Or.inr ?_
          unfold pm_min
          rcases hI with ⟨k1, k2⟩ | ⟨k0, ⟨t, k1, k2, k3⟩, k4⟩
          · rw [if_pos (by omega)]
            refine ⟨by omega, ⟨i, by omega, ⟨q, q2⟩, rfl⟩, fun t ht hf => ?_⟩
            by_cases e : t = i
            · rw [e]; exact Int.le_refl _
            · exact absurd hf (k2 t (by omega))
          · by_cases e0 : v 31 i < x
            · rw [if_pos e0]
              refine ⟨by omega, ⟨i, by omega, ⟨q, q2⟩, rfl⟩, fun t ht hf => ?_⟩
              by_cases e : t = i
              · rw [e]; exact Int.le_refl _
              · have := k4 t (by omega) hf
                omega
            · rw [if_neg e0]
              refine ⟨k0, ⟨t, by omega, k2, k3⟩, fun t ht hf => ?_⟩
              by_cases e : t = i
              · rw [e]; omega
              · exact k4 t (by omega) hf
        obtain ⟨x', e1, e2⟩ := lp_first h0 ha hm n (i + 1) _ (by omega) hI2
        refine ⟨x', ?_, e2⟩
        rw [show ((i + 1 : Nat) : Int) = (i : Int) + 1 by omega] at e1
        refine Eq.trans ?_ e1
        rw [a1, b_X10_firstStep_49, if_pos q2, b_X10_firstStep_52, if_pos (by omega), Int.toNat_natCast, b_X10_firstStep_59, b_X10_firstStep_63, w32_id (by omega) (by omega)]
      · obtain ⟨x', e1, e2⟩ := lp_first h0 ha hm n (i + 1) x (by omega) (skip (fun w => q2 w.2))
        refine ⟨x', ?_, e2⟩
        rw [show ((i + 1 : Nat) : Int) = (i : Int) + 1 by omega] at e1
        refine Eq.trans ?_ e1
        rw [a1, b_X10_firstStep_49, if_neg q2, b_X10_firstStep_63, w32_id (by omega) (by omega)]
    · obtain ⟨x', e1, e2⟩ := lp_first h0 ha hm n (i + 1) x (by omega) (skip (fun w => q w.1))
      refine ⟨x', ?_, e2⟩
      rw [show ((i + 1 : Nat) : Int) = (i : Int) + 1 by omega] at e1
      refine Eq.trans ?_ e1
      rw [b_X10_firstStep_7, if_pos (by omega), b_X10_firstStep_15, if_pos (by omega), Int.toNat_natCast, b_X10_firstStep_21, if_neg q, b_X10_firstStep_63, w32_id (by omega) (by omega)]
theorem c_firstStep {S a : Nat} (h : WOK v S P) (ha : a < P) (hm : ∀ p, p < P → 0 ≤ v 34 p ∧ v 34 p ≤ 9999) : ∃ r, qE L xs (d + 2) nX10_firstStep [(2, 29), (0, (a : Int))] (qS v) = some (some (0, r), qS v) ∧ Fst P (fun p => ∃ k, EC v S (-1) a p k ∧ v 34 p + k = v 34 a) r := by
  have h9 := h.2.2.1
  obtain ⟨x, e1, e2⟩ := lp_first (L := L) (xs := xs) (d := d) h ha hm S 0 (P : Int) (by omega) (Or.inl ⟨rfl, fun t ht => absurd ht (by omega)⟩)
  have hfs : ∀ p k, EC v S (-1) a p k → v 34 p + k = v 34 a → ∃ t, t < S ∧ fsH v a t ∧ v 31 t = (p : Int) := fun p k he hk => by
    obtain ⟨t, ht, w1, w2, w3, w4⟩ := he
    exact ⟨t, ht, ⟨w1, by rw [w2, w3, Int.toNat_natCast]; exact hk⟩, w2⟩
  have base : qE L xs (d + 2) nX10_firstStep [(2, 29), (0, (a : Int))] (qS v) = qG L xs (d + 1) CX10_firstStep 69 [(2, 29), (0, (a : Int)), (0, x), (0, (S : Int))] [] (qS v) := by
    rw [e_X10_firstStep, b_X10_firstStep_0, h9]
    exact e1
  rcases e2 with ⟨k1, k2⟩ | ⟨k0, ⟨t, k1, k2, k3⟩, k4⟩
  · refine ⟨-2, ?_, Or.inr ⟨fun p hp hq => ?_, rfl⟩⟩
    · rw [base, b_X10_firstStep_69, c_isThere h, qB_some, psh_some, b_X10_firstStep_74, zb_0, if_neg (by omega), b_X10_firstStep_81, b_X10_firstStep_83]
    · obtain ⟨k, g1, g2⟩ := hq
      obtain ⟨t, w1, w2, w3⟩ := hfs p k g1 g2
      exact k2 t w1 w2
  · obtain ⟨g1, g2, g3, g4⟩ := h.2.2.2.2 t k1
    refine ⟨x, ?_, Or.inl ⟨x.toNat, by omega, ?_, fun q hq hQ => ?_, by omega⟩⟩
    · rw [base, b_X10_firstStep_69, c_isThere h, qB_some, psh_some, b_X10_firstStep_74, zb_0, if_pos (by omega), b_X10_firstStep_77, b_X10_firstStep_83]
    · obtain ⟨j1, j2⟩ := k2
      refine ⟨v 32 t, ⟨t, k1, j1, by omega, rfl, Or.inl rfl⟩, ?_⟩
      rw [← k3]
      exact j2
    · obtain ⟨k, j1, j2⟩ := hQ
      obtain ⟨t', w1, w2, w3⟩ := hfs q k j1 j2
      have := k4 t' w1 w2
      omega
/-- .. and the reference's own -/
def msQ (T : Nat → Nat → Int → Prop) (g : Nat → Int) (b : Nat) (x : Int) (p : Nat) : Prop := g p < 1000000 ∧ ∃ y, 0 ≤ y ∧ Lst T p b (-2) y ∧ g p + y = x
theorem lp_mway {T : Nat → Nat → Int → Prop} {g : Nat → Int} {a b : Nat} (q w : Int) {x : Int} (hP : P ≤ 60) (hT : Okg T P 99) (ha : a < P) (hb : b < P) (hg : ∀ p, p < P → 1 ≤ g p ∧ g p ≤ 1000000) : ∀ (n j : Nat) (v : Nat → Nat → Int) (u7 u8 : pm_V), j + n = P → 2 * v 64 140 = (P : Int) → MH v T → (∀ p, p < P → v 74 (60 * a + p) = g p) → (∀ p, p < j → ¬ msQ T g b x p) → ∃ v' r, qG L xs (d + 4) CX12_way 67 [(2, 63), (0, q), (0, w), (0, (a : Int)), (0, (b : Int)), (0, x), (0, (j : Int)), u7, u8] [] (qS v) = some (some (0, r), qS v') ∧ (∀ c, c ≠ 75 → c ≠ 76 → v' c = v c) ∧ Fst P (msQ T g b x) r
  | 0, j, v, u7, u8, hj, hY, hM, h74, hn => by
    refine ⟨v, -2, ?_, fun _ _ _ => rfl, Or.inr ⟨fun p hp => hn p (by omega), rfl⟩⟩
    rw [b_X12_way_67, c_yardMany, qB_some, psh_some, b_X12_way_74, w32_id (by omega) (by omega), if_neg (by omega), b_X12_way_133]
  | n + 1, j, v, u7, u8, hj, hY, hM, h74, hn => by
    have hgj := hg j (by omega)
    have a1 : qG L xs (d + 4) CX12_way 67 [(2, 63), (0, q), (0, w), (0, (a : Int)), (0, (b : Int)), (0, x), (0, (j : Int)), u7, u8] [] (qS v) = qG L xs (d + 4) CX12_way 90 [(2, 63), (0, q), (0, w), (0, (a : Int)), (0, (b : Int)), (0, x), (0, (j : Int)), u7, u8] [(0, g j)] (qS v) := by
      have e : w32 (w32 (60 * (a : Int)) + (j : Int)) = ((60 * a + j : Nat) : Int) := by
        rw [w32_id (z := 60 * (a : Int)) (by omega) (by omega), w32_id (by omega) (by omega)]
        omega
      rw [b_X12_way_67, c_yardMany, qB_some, psh_some, b_X12_way_74, w32_id (by omega) (by omega), if_pos (by omega), b_X12_way_78, e, if_pos (by omega), Int.toNat_natCast, h74 j (by omega)]
    by_cases k1 : g j < 1000000
    · obtain ⟨v1, y, e1, e2, e3⟩ := m_wayFrom (L := L) (xs := xs) (d := d + 1) (s := j) (p := b) hP hY hT hM (by omega) hb
      have h74' : ∀ p, p < P → v1 74 (60 * a + p) = g p := fun p hp => by rw [e2 74 (by decide) (by decide)]; exact h74 p hp
      by_cases k2 : 0 ≤ y ∧ g j + y = x
      · refine ⟨v1, (j : Int), ?_, e2, Or.inl ⟨j, by omega, ⟨k1, y, k2.1, e3, k2.2⟩, hn, rfl⟩⟩
        have hyb : y ≤ 5841 := by
          rcases e3 with ⟨-, z, -, -⟩ | ⟨z, -⟩
          · exact z
          · omega
        rw [a1, b_X12_way_90, if_pos k1, b_X12_way_99, e1, qB_some, psh_some, b_X12_way_107, if_neg (by omega), b_X12_way_114, w32_id (by omega) (by omega), if_pos k2.2, b_X12_way_124]
      · have hn2 : ∀ p, p < j + 1 → ¬ msQ T g b x p := fun p hp hq => by
          by_cases e : p = j
          · subst e
            obtain ⟨-, z, z1, z2, z3⟩ := hq
            rcases Lst_one z2 e3 with ⟨t1, t2, t3, -⟩ | ⟨t1, -⟩
            · exact k2 ⟨by omega, by omega⟩
            · omega
          · exact hn p (by omega) hq
        have step : ∃ w8, qG L xs (d + 4) CX12_way 67 [(2, 63), (0, q), (0, w), (0, (a : Int)), (0, (b : Int)), (0, x), (0, (j : Int)), u7, u8] [] (qS v) = qG L xs (d + 4) CX12_way 67 [(2, 63), (0, q), (0, w), (0, (a : Int)), (0, (b : Int)), (0, x), (0, ((j + 1 : Nat) : Int)), (0, g j), w8] [] (qS v1) := by
          refine ⟨(0, y), ?_⟩
          rw [a1, b_X12_way_90, if_pos k1, b_X12_way_99, e1, qB_some, psh_some, b_X12_way_107]
          by_cases k3 : y < 0
          · rw [if_pos k3, b_X12_way_127, w32_id (by omega) (by omega)]
            rfl
          · have hyb : y ≤ 5841 := by
              rcases e3 with ⟨-, z, -, -⟩ | ⟨z, -⟩
              · exact z
              · omega
            rw [if_neg k3, b_X12_way_114, w32_id (by omega) (by omega), if_neg (by omega), b_X12_way_127, w32_id (by omega) (by omega)]
            rfl
        obtain ⟨w8, e4⟩ := step
        obtain ⟨v2, r, e5, e6, e7⟩ := lp_mway q w hP hT ha hb hg n (j + 1) v1 (0, g j) w8 (by omega) (by rw [e2 64 (by decide) (by decide)]; exact hY) (MH_cg (e2 74 (by decide) (by decide)) hM) h74' hn2
        exact ⟨v2, r, e4.trans e5, fun c h1 h2 => (e6 c h1 h2).trans (e2 c h1 h2), e7⟩
    · obtain ⟨v2, r, e5, e6, e7⟩ := lp_mway q w hP hT ha hb hg n (j + 1) v (0, g j) u8 (by omega) hY hM h74 (fun p hp hq => by
        by_cases e : p = j
        · subst e
          exact k1 hq.1
        · exact hn p (by omega) hq)
      refine ⟨v2, r, ?_, e6, e7⟩
      refine Eq.trans ?_ e5
      rw [a1, b_X12_way_90, if_neg k1, b_X12_way_127, w32_id (by omega) (by omega)]
      rfl
end WY
