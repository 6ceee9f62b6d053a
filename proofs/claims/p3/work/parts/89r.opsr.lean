/-! bricks keeps the relation -/
section OR3
variable {L : Nat} {xs : Nat → Int} {d : Nat} {v u w : Nat → Nat → Int} {G G' : Nat → Int} {a b c t : Nat}
theorem mr_ring3 (h : Gd G) (ha : a < 6) (hb : b < 6) : ∀ n c, c + n = 6 → ∀ u4 u5 u6 : pm_V, (∀ g, s3 G a b n c = some g → qG L xs d CX12_clears 18 [(2, 63), (0, (a : Int)), (0, (b : Int)), (0, (c : Int)), u4, u5, u6, (9, 0)] [] (qS (cel v 80 G)) = some (some (0, 1), qS (cel v 80 g))) ∧ (s3 G a b n c = none → ∃ w4 w5 w6, qG L xs d CX12_clears 18 [(2, 63), (0, (a : Int)), (0, (b : Int)), (0, (c : Int)), u4, u5, u6, (9, 0)] [] (qS (cel v 80 G)) = qG L xs d CX12_clears 166 [(2, 63), (0, (a : Int)), (0, (b : Int)), (0, 6), w4, w5, w6, (9, 0)] [] (qS (cel v 80 G)))
  | 0, c, hc, u4, u5, u6 => by
    refine ⟨fun g hg => absurd hg (by unfold s3; exact fun q => nomatch q), fun _ => ⟨u4, u5, u6, ?_⟩⟩
    rw [b_X12_clears_18, if_neg (by omega), show (c : Int) = 6 by omega]
  | n + 1, c, hc, u4, u5, u6 => by
    have gp := h.1 (6 * a + b) (by omega)
    have gq := h.1 (6 * b + c) (by omega)
    have gr := h.1 (6 * c + a) (by omega)
    obtain ⟨l1, l2, l3, l4⟩ := rgM_le (G := G) (p := 6 * a + b) (q := 6 * b + c) (r := 6 * c + a)
    have ih := mr_ring3 h ha hb n (c + 1) (by omega) (0, G (6 * a + b)) (0, G (6 * b + c)) (0, G (6 * c + a))
    rw [show ((c + 1 : Nat) : Int) = (c : Int) + 1 by omega] at ih
    have i1 : w32 (w32 (6 * (a : Int)) + b) = ((6 * a + b : Nat) : Int) := by rw [w32_id (z := 6 * (a : Int)) (by omega) (by omega), w32_id (by omega) (by omega)]; omega
    have i2 : w32 (w32 (6 * (b : Int)) + c) = ((6 * b + c : Nat) : Int) := by rw [w32_id (z := 6 * (b : Int)) (by omega) (by omega), w32_id (by omega) (by omega)]; omega
    have i3 : w32 (w32 (6 * (c : Int)) + a) = ((6 * c + a : Nat) : Int) := by rw [w32_id (z := 6 * (c : Int)) (by omega) (by omega), w32_id (by omega) (by omega)]; omega
    have p1 : 6 * a + b < 36 := by omega
    have p2 : 6 * b + c < 36 := by omega
    have p3 : 6 * c + a < 36 := by omega
    rw [b_X12_clears_18, if_pos (by omega), b_X12_clears_24, i1, if_pos (by omega), Int.toNat_natCast, cel_eq, b_X12_clears_35, i2, if_pos (by omega), Int.toNat_natCast, cel_eq, b_X12_clears_48, i3, if_pos (by omega), Int.toNat_natCast, cel_eq, b_X12_clears_61]
    have sk : ¬ 0 < rgM G (6 * a + b) (6 * b + c) (6 * c + a) → (∀ g, s3 G a b (n + 1) c = some g → qG L xs d CX12_clears 160 [(2, 63), (0, (a : Int)), (0, (b : Int)), (0, (c : Int)), (0, G (6 * a + b)), (0, G (6 * b + c)), (0, G (6 * c + a)), (9, 0)] [] (qS (cel v 80 G)) = some (some (0, 1), qS (cel v 80 g))) ∧ (s3 G a b (n + 1) c = none → ∃ w4 w5 w6, qG L xs d CX12_clears 160 [(2, 63), (0, (a : Int)), (0, (b : Int)), (0, (c : Int)), (0, G (6 * a + b)), (0, G (6 * b + c)), (0, G (6 * c + a)), (9, 0)] [] (qS (cel v 80 G)) = qG L xs d CX12_clears 166 [(2, 63), (0, (a : Int)), (0, (b : Int)), (0, 6), w4, w5, w6, (9, 0)] [] (qS (cel v 80 G))) := fun g => by
      unfold s3
      rw [if_neg g, b_X12_clears_160, w32_id (by omega) (by omega)]
      exact ih
    by_cases g1 : 0 < G (6 * a + b)
    · rw [if_pos g1, b_X12_clears_68]
      by_cases g2 : 0 < G (6 * b + c)
      · rw [if_pos g2, b_X12_clears_73]
        by_cases g3 : 0 < G (6 * c + a)
        · have hm : 0 < rgM G (6 * a + b) (6 * b + c) (6 * c + a) := by omega
          obtain ⟨u1, u2, u3⟩ := rg_un h ha hb (by omega) hm
          have e1 : upG G (6 * a + b) (G (6 * a + b) - rgM G (6 * a + b) (6 * b + c) (6 * c + a)) (6 * b + c) = G (6 * b + c) := if_neg (by omega)
          have e2 : upG (upG G (6 * a + b) (G (6 * a + b) - rgM G (6 * a + b) (6 * b + c) (6 * c + a))) (6 * b + c) (G (6 * b + c) - rgM G (6 * a + b) (6 * b + c) (6 * c + a)) (6 * c + a) = G (6 * c + a) := (if_neg (by omega)).trans (if_neg (by omega))
          have fin : ∀ x7 : Int, qG L xs d CX12_clears 108 [(2, 63), (0, (a : Int)), (0, (b : Int)), (0, (c : Int)), (0, G (6 * a + b)), (0, G (6 * b + c)), (0, G (6 * c + a)), (0, x7)] [(0, rgM G (6 * a + b) (6 * b + c) (6 * c + a))] (qS (cel v 80 G)) = some (some (0, 1), qS (cel v 80 (rgG G (6 * a + b) (6 * b + c) (6 * c + a)))) := fun x7 => by
            rw [b_X12_clears_108, i1, if_pos (by omega), Int.toNat_natCast, cel_eq, b_X12_clears_122, if_pos (by omega), Int.toNat_natCast, w32_id (by omega) (by omega), cel_up, b_X12_clears_126, i2, if_pos (by omega), Int.toNat_natCast, cel_eq, e1, b_X12_clears_138, if_pos (by omega), Int.toNat_natCast, w32_id (by omega) (by omega), cel_up, b_X12_clears_142, i3, if_pos (by omega), Int.toNat_natCast, cel_eq, e2, b_X12_clears_154, if_pos (by omega), Int.toNat_natCast, w32_id (by omega) (by omega), cel_up, rgG_up (by omega) (by omega) (by omega), b_X12_clears_158]
          have fin2 : qG L xs d CX12_clears 78 [(2, 63), (0, (a : Int)), (0, (b : Int)), (0, (c : Int)), (0, G (6 * a + b)), (0, G (6 * b + c)), (0, G (6 * c + a)), (9, 0)] [] (qS (cel v 80 G)) = some (some (0, 1), qS (cel v 80 (rgG G (6 * a + b) (6 * b + c) (6 * c + a)))) := by
            rw [b_X12_clears_78]
            have m1 : rgM G (6 * a + b) (6 * b + c) (6 * c + a) = if (if G (6 * a + b) < G (6 * b + c) then G (6 * a + b) else G (6 * b + c)) < G (6 * c + a) then (if G (6 * a + b) < G (6 * b + c) then G (6 * a + b) else G (6 * b + c)) else G (6 * c + a) := by
              unfold rgM pm_min
              split <;> split <;> split <;> split <;> omega
            by_cases k1 : G (6 * a + b) < G (6 * b + c)
            · rw [if_pos k1] at m1
              rw [if_pos k1, b_X12_clears_85, b_X12_clears_92]
              by_cases k2 : G (6 * a + b) < G (6 * c + a)
              · rw [if_pos k2] at m1
                have f := fin (G (6 * a + b))
                rw [m1] at f
                rw [if_pos k2, b_X12_clears_101]
                exact f
              · rw [if_neg k2] at m1
                have f := fin (G (6 * a + b))
                rw [m1] at f
                rw [if_neg k2, b_X12_clears_106]
                exact f
            · rw [if_neg k1] at m1
              rw [if_neg k1, b_X12_clears_90, b_X12_clears_92]
              by_cases k2 : G (6 * b + c) < G (6 * c + a)
              · rw [if_pos k2] at m1
                have f := fin (G (6 * b + c))
                rw [m1] at f
                rw [if_pos k2, b_X12_clears_101]
                exact f
              · rw [if_neg k2] at m1
                have f := fin (G (6 * b + c))
                rw [m1] at f
                rw [if_neg k2, b_X12_clears_106]
                exact f
          rw [if_pos g3, fin2]
          unfold s3
          rw [if_pos hm]
          exact ⟨fun x hx => by rw [← Option.some.inj hx], fun q => nomatch q⟩
        · rw [if_neg g3]
          exact sk (by omega)
      · rw [if_neg g2]
        have h4 := ih
        unfold s3
        rw [if_neg (show ¬ 0 < rgM G (6 * a + b) (6 * b + c) (6 * c + a) by omega), b_X12_clears_160, w32_id (by omega) (by omega)]
        exact ih
    · rw [if_neg g1]
      unfold s3
      rw [if_neg (show ¬ 0 < rgM G (6 * a + b) (6 * b + c) (6 * c + a) by omega), b_X12_clears_160, w32_id (by omega) (by omega)]
      exact ih
theorem mr_ring2 (h : Gd G) (ha : a < 6) : ∀ n b, b + n = 6 → ∀ u3 u4 u5 u6 : pm_V, (∀ g, s2 G a n b = some g → qG L xs d CX12_clears 10 [(2, 63), (0, (a : Int)), (0, (b : Int)), u3, u4, u5, u6, (9, 0)] [] (qS (cel v 80 G)) = some (some (0, 1), qS (cel v 80 g))) ∧ (s2 G a n b = none → ∃ w3 w4 w5 w6, qG L xs d CX12_clears 10 [(2, 63), (0, (a : Int)), (0, (b : Int)), u3, u4, u5, u6, (9, 0)] [] (qS (cel v 80 G)) = qG L xs d CX12_clears 172 [(2, 63), (0, (a : Int)), (0, 6), w3, w4, w5, w6, (9, 0)] [] (qS (cel v 80 G)))
  | 0, b, hb, u3, u4, u5, u6 => by
    refine ⟨fun g hg => absurd hg (by unfold s2; exact fun q => nomatch q), fun _ => ⟨u3, u4, u5, u6, ?_⟩⟩
    rw [b_X12_clears_10, if_neg (by omega), show (b : Int) = 6 by omega]
  | n + 1, b, hb, u3, u4, u5, u6 => by
    have l3 := mr_ring3 (L := L) (xs := xs) (d := d) (v := v) h ha (show b < 6 by omega) 6 0 (by omega) u4 u5 u6
    rw [show ((0 : Nat) : Int) = 0 from rfl] at l3
    rw [b_X12_clears_10, if_pos (by omega), b_X12_clears_16]
    unfold s2
    by_cases g : (s3 G a b 6 0).isSome
    · rw [if_pos g]
      refine ⟨fun x hx => l3.1 x hx, fun q => ?_⟩
      rw [q] at g
      exact nomatch g
    · obtain ⟨w4, w5, w6, e⟩ := l3.2 (by revert g; cases s3 G a b 6 0 <;> simp)
      have ih := mr_ring2 h ha n (b + 1) (by omega) (0, 6) w4 w5 w6
      rw [show ((b + 1 : Nat) : Int) = (b : Int) + 1 by omega] at ih
      rw [if_neg g, e, b_X12_clears_166, w32_id (by omega) (by omega)]
      exact ih
theorem mr_ring1 (h : Gd G) : ∀ n a, a + n = 6 → ∀ u2 u3 u4 u5 u6 : pm_V, (∀ g, s1 G n a = some g → qG L xs d CX12_clears 2 [(2, 63), (0, (a : Int)), u2, u3, u4, u5, u6, (9, 0)] [] (qS (cel v 80 G)) = some (some (0, 1), qS (cel v 80 g))) ∧ (s1 G n a = none → qG L xs d CX12_clears 2 [(2, 63), (0, (a : Int)), u2, u3, u4, u5, u6, (9, 0)] [] (qS (cel v 80 G)) = some (some (0, 0), qS (cel v 80 G)))
  | 0, a, ha, u2, u3, u4, u5, u6 => by
    refine ⟨fun g hg => absurd hg (by unfold s1; exact fun q => nomatch q), fun _ => ?_⟩
    rw [b_X12_clears_2, if_neg (by omega), b_X12_clears_178]
  | n + 1, a, ha, u2, u3, u4, u5, u6 => by
    have l2 := mr_ring2 (L := L) (xs := xs) (d := d) (v := v) h (show a < 6 by omega) 6 0 (by omega) u3 u4 u5 u6
    rw [show ((0 : Nat) : Int) = 0 from rfl] at l2
    rw [b_X12_clears_2, if_pos (by omega), b_X12_clears_8]
    unfold s1
    by_cases g : (s2 G a 6 0).isSome
    · rw [if_pos g]
      refine ⟨fun x hx => l2.1 x hx, fun q => ?_⟩
      rw [q] at g
      exact nomatch g
    · obtain ⟨w3, w4, w5, w6, e⟩ := l2.2 (by revert g; cases s2 G a 6 0 <;> simp)
      have ih := mr_ring1 h n (a + 1) (by omega) (0, 6) w3 w4 w5 w6
      rw [show ((a + 1 : Nat) : Int) = (a : Int) + 1 by omega] at ih
      rw [if_neg g, e, b_X12_clears_172, w32_id (by omega) (by omega)]
      exact ih
theorem mr_clear (x1 x2 x3 : Int) : ∀ (n : Nat) (G : Nat → Int), pcG G 36 ≤ n → Gd G → qG L xs (d + 1) CX12_bricks 142 [(2, 63), (0, x1), (0, x2), (0, x3), (0, 1)] [] (qS (cel v 80 G)) = qG L xs (d + 1) CX12_bricks 156 [(2, 63), (0, x1), (0, x2), (0, x3), (0, 0)] [] (qS (cel v 80 (itG n G))) := by
  intro n
  induction n with
  | zero =>
    intro G hn hG
    have l1 := mr_ring1 (L := L) (xs := xs) (d := d) (v := v) hG 6 0 (by omega) (9, 0) (9, 0) (9, 0) (9, 0) (9, 0)
    rw [show ((0 : Nat) : Int) = 0 from rfl] at l1
    rw [b_X12_bricks_142, if_neg (by omega), b_X12_bricks_147, e_X12_clears, b_X12_clears_0]
    cases hs : s1 G 6 0 with
    | none => rw [l1.2 hs, qB_some, psh_some, b_X12_bricks_151, b_X12_bricks_142, if_pos rfl]; rfl
    | some g =>
      have := (s1_gd hG 6 0 (by omega) g hs).2
      omega
  | succ n ih =>
    intro G hn hG
    have l1 := mr_ring1 (L := L) (xs := xs) (d := d) (v := v) hG 6 0 (by omega) (9, 0) (9, 0) (9, 0) (9, 0) (9, 0)
    rw [show ((0 : Nat) : Int) = 0 from rfl] at l1
    rw [b_X12_bricks_142, if_neg (by omega), b_X12_bricks_147, e_X12_clears, b_X12_clears_0]
    cases hs : s1 G 6 0 with
    | none =>
      have ei : itG (n + 1) G = G := by
        show (match s1 G 6 0 with | some g => itG n g | none => G) = G
        rw [hs]
      rw [l1.2 hs, qB_some, psh_some, b_X12_bricks_151, b_X12_bricks_142, if_pos rfl, ei]
    | some g =>
      have gg := s1_gd hG 6 0 (by omega) g hs
      have ei : itG (n + 1) G = itG n g := by
        show (match s1 G 6 0 with | some g => itG n g | none => G) = itG n g
        rw [hs]
      rw [l1.1 g hs, qB_some, psh_some, b_X12_bricks_151, ei]
      exact ih g (by omega) gg.1
/-! only the first 36 count -/
def oE (x y : Option (Nat → Int)) : Prop := (x = none ∧ y = none) ∨ ∃ g g', x = some g ∧ y = some g' ∧ ∀ i, i < 36 → g i = g' i
theorem rgG_cg (h : ∀ i, i < 36 → G i = G' i) {p q r : Nat} (hp : p < 36) (hq : q < 36) (hr : r < 36) : rgM G p q r = rgM G' p q r ∧ ∀ i, i < 36 → rgG G p q r i = rgG G' p q r i := by
  have e : rgM G p q r = rgM G' p q r := by
    unfold rgM
    rw [h p hp, h q hq, h r hr]
  refine ⟨e, fun i hi => ?_⟩
  unfold rgG
  rw [e, h i hi]
theorem s3_cg (h : ∀ i, i < 36 → G i = G' i) (ha : a < 6) (hb : b < 6) : ∀ n c, c + n = 6 → oE (s3 G a b n c) (s3 G' a b n c)
  | 0, _, _ => Or.inl ⟨rfl, rfl⟩
  | n + 1, c, hc => by
    have e := rgG_cg h (p := 6 * a + b) (q := 6 * b + c) (r := 6 * c + a) (by omega) (by omega) (by omega)
    unfold s3
    rw [← e.1]
    by_cases g : 0 < rgM G (6 * a + b) (6 * b + c) (6 * c + a)
    · rw [if_pos g, if_pos g]
      exact Or.inr ⟨_, _, rfl, rfl, e.2⟩
    · rw [if_neg g, if_neg g]
      exact s3_cg h ha hb n (c + 1) (by omega)
theorem s2_cg (h : ∀ i, i < 36 → G i = G' i) (ha : a < 6) : ∀ n b, b + n = 6 → oE (s2 G a n b) (s2 G' a n b)
  | 0, _, _ => Or.inl ⟨rfl, rfl⟩
  | n + 1, b, hb => by
    have ih := s2_cg h ha n (b + 1) (by omega)
    unfold s2
    rcases s3_cg h ha (show b < 6 by omega) 6 0 (by omega) with ⟨e1, e2⟩ | ⟨g, g', e1, e2, e3⟩
    · rw [e1, e2]
      exact ih
    · rw [e1, e2]
      exact Or.inr ⟨g, g', rfl, rfl, e3⟩
theorem s1_cg (h : ∀ i, i < 36 → G i = G' i) : ∀ n a, a + n = 6 → oE (s1 G n a) (s1 G' n a)
  | 0, _, _ => Or.inl ⟨rfl, rfl⟩
  | n + 1, a, ha => by
    have ih := s1_cg h n (a + 1) (by omega)
    unfold s1
    rcases s2_cg h (show a < 6 by omega) 6 0 (by omega) with ⟨e1, e2⟩ | ⟨g, g', e1, e2, e3⟩
    · rw [e1, e2]
      exact ih
    · rw [e1, e2]
      exact Or.inr ⟨g, g', rfl, rfl, e3⟩
theorem itG_cg : ∀ (n : Nat) (G G' : Nat → Int), (∀ i, i < 36 → G i = G' i) → ∀ i, i < 36 → itG n G i = itG n G' i
  | 0, _, _, h => h
  | n + 1, G, G', h => by
    show ∀ i, i < 36 → (match s1 G 6 0 with | some g => itG n g | none => G) i = (match s1 G' 6 0 with | some g => itG n g | none => G') i
    rcases s1_cg h 6 0 (by omega) with ⟨e1, e2⟩ | ⟨g, g', e1, e2, e3⟩
    · rw [e1, e2]
      exact h
    · rw [e1, e2]
      exact itG_cg n g g' e3
end OR3
