/-! BRICKS in general: rings taken off -/
section OQ3
variable {L : Nat} {xs : Nat → Int} {d : Nat} {v u w : Nat → Nat → Int} {G : Nat → Int} {a b c t : Nat}
/-- the cell t holds G -/
def cel (v : Nat → Nat → Int) (t : Nat) (G : Nat → Int) : Nat → Nat → Int := fun c k => if c = t then G k else v c k
theorem cel_eq (t : Nat) (G : Nat → Int) (k : Nat) : cel v t G t k = G k := if_pos rfl
theorem cel_ne {t c k : Nat} {G : Nat → Int} (h : c ≠ t) : cel v t G c k = v c k := if_neg h
def upG (G : Nat → Int) (q : Nat) (z : Int) : Nat → Int := fun i => if i = q then z else G i
theorem cel_up {t q : Nat} {z : Int} : pm_up (cel v t G) t q z = cel v t (upG G q z) := by
  funext c k
  show (if c = t ∧ k = q then z else if c = t then G k else v c k) = if c = t then (if k = q then z else G k) else v c k
  by_cases h : c = t
  · by_cases h2 : k = q
    · rw [if_pos ⟨h, h2⟩, if_pos h, if_pos h2]
    · rw [if_neg (by omega), if_pos h, if_pos h, if_neg h2]
  · rw [if_neg (by omega), if_neg h, if_neg h]
/-- the least of a ring; the ring taken off -/
def rgM (G : Nat → Int) (p q r : Nat) : Int := pm_min (G p) (pm_min (G q) (G r))
def rgG (G : Nat → Int) (p q r : Nat) : Nat → Int := fun i => if i = p ∨ i = q ∨ i = r then G i - rgM G p q r else G i
theorem rgM_le {p q r : Nat} : rgM G p q r ≤ G p ∧ rgM G p q r ≤ G q ∧ rgM G p q r ≤ G r ∧ (rgM G p q r = G p ∨ rgM G p q r = G q ∨ rgM G p q r = G r) := by
  unfold rgM pm_min
  split <;> split <;> omega
theorem rgG_up {p q r : Nat} (h1 : p ≠ q) (h2 : q ≠ r) (h3 : p ≠ r) : upG (upG (upG G p (G p - rgM G p q r)) q (G q - rgM G p q r)) r (G r - rgM G p q r) = rgG G p q r := by
  funext i
  unfold upG rgG
  by_cases e3 : i = r
  · rw [if_pos e3, if_pos (by omega), e3]
  · rw [if_neg e3]
    by_cases e2 : i = q
    · rw [if_pos e2, if_pos (by omega), e2]
    · rw [if_neg e2]
      by_cases e1 : i = p
      · rw [if_pos e1, if_pos (by omega), e1]
      · rw [if_neg e1, if_neg (by omega)]
def Gd (G : Nat → Int) : Prop := (∀ i, i < 36 → 0 ≤ G i ∧ G i ≤ 999) ∧ ∀ a, a < 6 → G (7 * a) = 0
def pcG (G : Nat → Int) : Nat → Nat
  | 0 => 0
  | n + 1 => pcG G n + if 0 < G n then 1 else 0
theorem pcG_le {G' : Nat → Int} : ∀ n, (∀ i, i < n → 0 < G' i → 0 < G i) → pcG G' n ≤ pcG G n
  | 0, _ => Nat.le_refl _
  | n + 1, h => by
    have ih := pcG_le n (fun i hi => h i (by omega))
    have hn := h n (by omega)
    unfold pcG
    by_cases g : 0 < G' n
    · rw [if_pos g, if_pos (hn g)]
      omega
    · rw [if_neg g]
      omega
theorem pcG_lt {G' : Nat → Int} {q : Nat} (hq : 0 < G q) (hq' : ¬ 0 < G' q) : ∀ n, (∀ i, i < n → 0 < G' i → 0 < G i) → q < n → pcG G' n < pcG G n
  | 0, _, hn => absurd hn (by omega)
  | n + 1, h, hn => by
    by_cases g : q = n
    · have le := pcG_le n (fun i hi => h i (by omega))
      subst g
      unfold pcG
      rw [if_pos hq, if_neg hq']
      omega
    · have ih := pcG_lt hq hq' n (fun i hi => h i (by omega)) (by omega)
      have hn2 := h n (by omega)
      unfold pcG
      by_cases g : 0 < G' n
      · rw [if_pos g, if_pos (hn2 g)]
        omega
      · rw [if_neg g]
        omega
theorem pcG_n : ∀ n, pcG G n ≤ n
  | 0 => Nat.le_refl _
  | n + 1 => by
    have ih := pcG_n n
    unfold pcG
    split <;> omega
/-- a ring is one of three unlike owners -/
theorem rg_un (h : Gd G) (ha : a < 6) (hb : b < 6) (hc : c < 6) (hm : 0 < rgM G (6 * a + b) (6 * b + c) (6 * c + a)) : a ≠ b ∧ b ≠ c ∧ c ≠ a := by
  obtain ⟨l1, l2, l3, -⟩ := rgM_le (G := G) (p := 6 * a + b) (q := 6 * b + c) (r := 6 * c + a)
  refine ⟨fun e => ?_, fun e => ?_, fun e => ?_⟩
  · have := h.2 a ha
    rw [show 6 * a + b = 7 * a by omega] at l1 hm
    omega
  · have := h.2 b hb
    rw [show 6 * b + c = 7 * b by omega] at l2 hm
    omega
  · have := h.2 c hc
    rw [show 6 * c + a = 7 * c by omega] at l3 hm
    omega
theorem rg_gd (h : Gd G) (ha : a < 6) (hb : b < 6) (hc : c < 6) (hm : 0 < rgM G (6 * a + b) (6 * b + c) (6 * c + a)) : Gd (rgG G (6 * a + b) (6 * b + c) (6 * c + a)) ∧ pcG (rgG G (6 * a + b) (6 * b + c) (6 * c + a)) 36 < pcG G 36 := by
  obtain ⟨u1, u2, u3⟩ := rg_un h ha hb hc hm
  obtain ⟨l1, l2, l3, l4⟩ := rgM_le (G := G) (p := 6 * a + b) (q := 6 * b + c) (r := 6 * c + a)
  have val : ∀ i, i < 36 → 0 ≤ rgG G (6 * a + b) (6 * b + c) (6 * c + a) i ∧ rgG G (6 * a + b) (6 * b + c) (6 * c + a) i ≤ G i := fun i hi => by
    unfold rgG
    by_cases g : i = 6 * a + b ∨ i = 6 * b + c ∨ i = 6 * c + a
    · rw [if_pos g]
      rcases g with g | g | g
      · rw [g]; omega
      · rw [g]; omega
      · rw [g]; omega
    · rw [if_neg g]
      have := h.1 i hi
      omega
  refine ⟨⟨fun i hi => ?_, fun x hx => ?_⟩, ?_⟩
  · have h1 := val i hi
    have h2 := h.1 i hi
    omega
  · unfold rgG
    rw [if_neg (by omega)]
    exact h.2 x hx
  · have mono : ∀ i, i < 36 → 0 < rgG G (6 * a + b) (6 * b + c) (6 * c + a) i → 0 < G i := fun i hi q => by
      have h1 := val i hi
      omega
    rcases l4 with l4 | l4 | l4
    · exact pcG_lt (q := 6 * a + b) (by omega) (by unfold rgG; rw [if_pos (by omega)]; omega) 36 mono (by omega)
    · exact pcG_lt (q := 6 * b + c) (by omega) (by unfold rgG; rw [if_pos (by omega)]; omega) 36 mono (by omega)
    · exact pcG_lt (q := 6 * c + a) (by omega) (by unfold rgG; rw [if_pos (by omega)]; omega) 36 mono (by omega)
/-- the first ring, looked for -/
def s3 (G : Nat → Int) (a b : Nat) : Nat → Nat → Option (Nat → Int)
  | 0, _ => none
  | n + 1, c => if 0 < rgM G (6 * a + b) (6 * b + c) (6 * c + a) then some (rgG G (6 * a + b) (6 * b + c) (6 * c + a)) else s3 G a b n (c + 1)
def s2 (G : Nat → Int) (a : Nat) : Nat → Nat → Option (Nat → Int)
  | 0, _ => none
  | n + 1, b => if (s3 G a b 6 0).isSome then s3 G a b 6 0 else s2 G a n (b + 1)
def s1 (G : Nat → Int) : Nat → Nat → Option (Nat → Int)
  | 0, _ => none
  | n + 1, a => if (s2 G a 6 0).isSome then s2 G a 6 0 else s1 G n (a + 1)
theorem s3_gd (h : Gd G) (ha : a < 6) (hb : b < 6) : ∀ n c, c + n = 6 → ∀ g, s3 G a b n c = some g → Gd g ∧ pcG g 36 < pcG G 36
  | 0, c, _, g, hg => by exact absurd hg (by unfold s3; exact fun q => nomatch q)
  | n + 1, c, hc, g, hg => by
    unfold s3 at hg
    by_cases q : 0 < rgM G (6 * a + b) (6 * b + c) (6 * c + a)
    · rw [if_pos q] at hg
      rw [← Option.some.inj hg]
      exact rg_gd h ha hb (by omega) q
    · rw [if_neg q] at hg
      exact s3_gd h ha hb n (c + 1) (by omega) g hg
theorem s2_gd (h : Gd G) (ha : a < 6) : ∀ n b, b + n = 6 → ∀ g, s2 G a n b = some g → Gd g ∧ pcG g 36 < pcG G 36
  | 0, b, _, g, hg => by exact absurd hg (by unfold s2; exact fun q => nomatch q)
  | n + 1, b, hb, g, hg => by
    unfold s2 at hg
    by_cases q : (s3 G a b 6 0).isSome
    · rw [if_pos q] at hg
      exact s3_gd h ha (by omega) 6 0 (by omega) g hg
    · rw [if_neg q] at hg
      exact s2_gd h ha n (b + 1) (by omega) g hg
theorem s1_gd (h : Gd G) : ∀ n a, a + n = 6 → ∀ g, s1 G n a = some g → Gd g ∧ pcG g 36 < pcG G 36
  | 0, b, _, g, hg => by exact absurd hg (by unfold s1; exact fun q => nomatch q)
  | n + 1, a, ha, g, hg => by
    unfold s1 at hg
    by_cases q : (s2 G a 6 0).isSome
    · rw [if_pos q] at hg
      exact s2_gd h (by omega) 6 0 (by omega) g hg
    · rw [if_neg q] at hg
      exact s1_gd h n (a + 1) (by omega) g hg
/-- rings taken off, so many at most -/
def itG : Nat → (Nat → Int) → Nat → Int
  | 0, G => G
  | n + 1, G => match s1 G 6 0 with
    | some g => itG n g
    | none => G
/-! the class -/
theorem cr_ring (h : Gd G) (ha : a < 6) (hb : b < 6) (hc : c < 6) : qE L xs (d + 1) nX2_clearRing [(2, 41), (0, ((6 * a + b : Nat) : Int)), (0, ((6 * b + c : Nat) : Int)), (0, ((6 * c + a : Nat) : Int))] (qS (cel v 43 G)) = if 0 < rgM G (6 * a + b) (6 * b + c) (6 * c + a) then some (some (0, 1), qS (cel v 43 (rgG G (6 * a + b) (6 * b + c) (6 * c + a)))) else some (some (0, 0), qS (cel v 43 G)) := by
  have gp := h.1 (6 * a + b) (by omega)
  have gq := h.1 (6 * b + c) (by omega)
  have gr := h.1 (6 * c + a) (by omega)
  obtain ⟨l1, l2, l3, l4⟩ := rgM_le (G := G) (p := 6 * a + b) (q := 6 * b + c) (r := 6 * c + a)
  conv => lhs; rw [e_X2_clearRing_41, b_X2_clearRing_41_0, if_pos (by omega), Int.toNat_natCast, b_X2_clearRing_41_6, if_pos (by omega), Int.toNat_natCast, b_X2_clearRing_41_12, if_pos (by omega), Int.toNat_natCast, b_X2_clearRing_41_18, cel_eq, cel_eq, cel_eq, show pm_min (G (6 * a + b)) (pm_min (G (6 * b + c)) (G (6 * c + a))) = rgM G (6 * a + b) (6 * b + c) (6 * c + a) from rfl]
  by_cases g : 0 < rgM G (6 * a + b) (6 * b + c) (6 * c + a)
  · obtain ⟨u1, u2, u3⟩ := rg_un h ha hb hc g
    have e1 : upG G (6 * a + b) (G (6 * a + b) - rgM G (6 * a + b) (6 * b + c) (6 * c + a)) (6 * b + c) = G (6 * b + c) := if_neg (by omega)
    have e2 : upG (upG G (6 * a + b) (G (6 * a + b) - rgM G (6 * a + b) (6 * b + c) (6 * c + a))) (6 * b + c) (G (6 * b + c) - rgM G (6 * a + b) (6 * b + c) (6 * c + a)) (6 * c + a) = G (6 * c + a) := (if_neg (by omega)).trans (if_neg (by omega))
    rw [if_pos g, if_pos g, b_X2_clearRing_41_33, if_pos (by omega), Int.toNat_natCast, cel_eq, b_X2_clearRing_41_40, if_pos (by omega), Int.toNat_natCast, w32_id (by omega) (by omega), cel_up, b_X2_clearRing_41_44, if_pos (by omega), Int.toNat_natCast, cel_eq, e1, b_X2_clearRing_41_51, if_pos (by omega), Int.toNat_natCast, w32_id (by omega) (by omega), cel_up, b_X2_clearRing_41_55, if_pos (by omega), Int.toNat_natCast, cel_eq, e2, b_X2_clearRing_41_62, if_pos (by omega), Int.toNat_natCast, w32_id (by omega) (by omega), cel_up, rgG_up (by omega) (by omega) (by omega), b_X2_clearRing_41_66]
  · rw [if_neg g, if_neg g, b_X2_clearRing_41_31]
theorem lpr_ring3 (h : Gd G) (ha : a < 6) (hb : b < 6) : ∀ n c, c + n = 6 → (∀ g, s3 G a b n c = some g → qG L xs (d + 1) CX2_clearFirstRing 18 [(2, 41), (0, (a : Int)), (0, (b : Int)), (0, (c : Int))] [] (qS (cel v 43 G)) = some (some (0, 1), qS (cel v 43 g))) ∧ (s3 G a b n c = none → qG L xs (d + 1) CX2_clearFirstRing 18 [(2, 41), (0, (a : Int)), (0, (b : Int)), (0, (c : Int))] [] (qS (cel v 43 G)) = qG L xs (d + 1) CX2_clearFirstRing 57 [(2, 41), (0, (a : Int)), (0, (b : Int)), (0, 6)] [] (qS (cel v 43 G)))
  | 0, c, hc => by
    refine ⟨fun g hg => absurd hg (by unfold s3; exact fun q => nomatch q), fun _ => ?_⟩
    rw [b_X2_clearFirstRing_41_18, if_neg (by omega), show (c : Int) = 6 by omega]
  | n + 1, c, hc => by
    have ih := lpr_ring3 h ha hb n (c + 1) (by omega)
    rw [show ((c + 1 : Nat) : Int) = (c : Int) + 1 by omega] at ih
    rw [b_X2_clearFirstRing_41_18, if_pos (by omega), b_X2_clearFirstRing_41_24, w32_id (z := (a : Int) * 6) (by omega) (by omega), w32_id (z := (b : Int) * 6) (by omega) (by omega), w32_id (z := (c : Int) * 6) (by omega) (by omega), w32_id (by omega) (by omega), w32_id (by omega) (by omega), w32_id (by omega) (by omega), show (a : Int) * 6 + b = ((6 * a + b : Nat) : Int) by omega, show (b : Int) * 6 + c = ((6 * b + c : Nat) : Int) by omega, show (c : Int) * 6 + a = ((6 * c + a : Nat) : Int) by omega, cr_ring h ha hb (by omega)]
    unfold s3
    by_cases g : 0 < rgM G (6 * a + b) (6 * b + c) (6 * c + a)
    · rw [if_pos g, if_pos g]
      refine ⟨fun x hx => ?_, fun q => nomatch q⟩
      rw [← Option.some.inj hx, qB_some, psh_some, b_X2_clearFirstRing_41_46, if_neg (by decide), b_X2_clearFirstRing_41_49]
    · rw [if_neg g, if_neg g, qB_some, psh_some, b_X2_clearFirstRing_41_46, if_pos rfl, b_X2_clearFirstRing_41_51, w32_id (by omega) (by omega)]
      exact ih
theorem lpr_ring2 (h : Gd G) (ha : a < 6) : ∀ n b, b + n = 6 → ∀ u3 : pm_V, (∀ g, s2 G a n b = some g → qG L xs (d + 1) CX2_clearFirstRing 10 [(2, 41), (0, (a : Int)), (0, (b : Int)), u3] [] (qS (cel v 43 G)) = some (some (0, 1), qS (cel v 43 g))) ∧ (s2 G a n b = none → ∃ w3, qG L xs (d + 1) CX2_clearFirstRing 10 [(2, 41), (0, (a : Int)), (0, (b : Int)), u3] [] (qS (cel v 43 G)) = qG L xs (d + 1) CX2_clearFirstRing 63 [(2, 41), (0, (a : Int)), (0, 6), w3] [] (qS (cel v 43 G)))
  | 0, b, hb, u3 => by
    refine ⟨fun g hg => absurd hg (by unfold s2; exact fun q => nomatch q), fun _ => ⟨u3, ?_⟩⟩
    rw [b_X2_clearFirstRing_41_10, if_neg (by omega), show (b : Int) = 6 by omega]
  | n + 1, b, hb, u3 => by
    have ih := lpr_ring2 h ha n (b + 1) (by omega) (0, 6)
    have l3 := lpr_ring3 (L := L) (xs := xs) (d := d) (v := v) h ha (show b < 6 by omega) 6 0 (by omega)
    rw [show ((b + 1 : Nat) : Int) = (b : Int) + 1 by omega] at ih
    rw [show ((0 : Nat) : Int) = 0 from rfl] at l3
    rw [b_X2_clearFirstRing_41_10, if_pos (by omega), b_X2_clearFirstRing_41_16]
    unfold s2
    by_cases g : (s3 G a b 6 0).isSome
    · rw [if_pos g]
      refine ⟨fun x hx => l3.1 x hx, fun q => ?_⟩
      rw [q] at g
      exact nomatch g
    · rw [if_neg g, l3.2 (by revert g; cases s3 G a b 6 0 <;> simp), b_X2_clearFirstRing_41_57, w32_id (by omega) (by omega)]
      exact ih
theorem lpr_ring1 (h : Gd G) : ∀ n a, a + n = 6 → ∀ u2 u3 : pm_V, (∀ g, s1 G n a = some g → qG L xs (d + 1) CX2_clearFirstRing 2 [(2, 41), (0, (a : Int)), u2, u3] [] (qS (cel v 43 G)) = some (some (0, 1), qS (cel v 43 g))) ∧ (s1 G n a = none → qG L xs (d + 1) CX2_clearFirstRing 2 [(2, 41), (0, (a : Int)), u2, u3] [] (qS (cel v 43 G)) = some (some (0, 0), qS (cel v 43 G)))
  | 0, a, ha, u2, u3 => by
    refine ⟨fun g hg => absurd hg (by unfold s1; exact fun q => nomatch q), fun _ => ?_⟩
    rw [b_X2_clearFirstRing_41_2, if_neg (by omega), b_X2_clearFirstRing_41_69]
  | n + 1, a, ha, u2, u3 => by
    have l2 := lpr_ring2 (L := L) (xs := xs) (d := d) (v := v) h (show a < 6 by omega) 6 0 (by omega) u3
    rw [show ((0 : Nat) : Int) = 0 from rfl] at l2
    rw [b_X2_clearFirstRing_41_2, if_pos (by omega), b_X2_clearFirstRing_41_8]
    unfold s1
    by_cases g : (s2 G a 6 0).isSome
    · rw [if_pos g]
      refine ⟨fun x hx => l2.1 x hx, fun q => ?_⟩
      rw [q] at g
      exact nomatch g
    · obtain ⟨w3, e⟩ := l2.2 (by revert g; cases s2 G a 6 0 <;> simp)
      have ih := lpr_ring1 h n (a + 1) (by omega) (0, 6) w3
      rw [show ((a + 1 : Nat) : Int) = (a : Int) + 1 by omega] at ih
      rw [if_neg g, e, b_X2_clearFirstRing_41_63, w32_id (by omega) (by omega)]
      exact ih
theorem lpr_clear (x1 x2 : Int) : ∀ (n j : Nat) (G : Nat → Int), j + n = 36 → Gd G → ∃ x3 x4 : Int, qG L xs (d + 2) CX2_lentWhenCleared 23 [(2, 41), (0, x1), (0, x2), (0, 1), (0, (j : Int))] [] (qS (cel v 43 G)) = qG L xs (d + 2) CX2_lentWhenCleared 48 [(2, 41), (0, x1), (0, x2), (0, x3), (0, x4)] [] (qS (cel v 43 (itG n G)))
  | 0, j, G, hj, hG => by
    refine ⟨1, (j : Int), ?_⟩
    rw [b_X2_lentWhenCleared_41_23, if_neg (by omega)]
    rfl
  | n + 1, j, G, hj, hG => by
    have l1 := lpr_ring1 (L := L) (xs := xs) (d := d) (v := v) hG 6 0 (by omega) (9, 0) (9, 0)
    rw [show ((0 : Nat) : Int) = 0 from rfl] at l1
    rw [b_X2_lentWhenCleared_41_23, if_pos (by omega), b_X2_lentWhenCleared_41_33, if_neg (by omega), b_X2_lentWhenCleared_41_37, e_X2_clearFirstRing_41, b_X2_clearFirstRing_41_0]
    cases hs : s1 G 6 0 with
    | none =>
      refine ⟨0, (j : Int) + 1, ?_⟩
      have ei : itG (n + 1) G = G := by
        show (match s1 G 6 0 with | some g => itG n g | none => G) = G
        rw [hs]
      rw [l1.2 hs, qB_some, psh_some, b_X2_lentWhenCleared_41_41, w32_id (by omega) (by omega), b_X2_lentWhenCleared_41_23, ei]
      by_cases q : (j : Int) + 1 < 36
      · rw [if_pos q, b_X2_lentWhenCleared_41_33, if_pos rfl]
      · rw [if_neg q]
    | some g =>
      obtain ⟨x3, x4, e⟩ := lpr_clear x1 x2 n (j + 1) g (by omega) (s1_gd hG 6 0 (by omega) g hs).1
      rw [show ((j + 1 : Nat) : Int) = (j : Int) + 1 by omega] at e
      refine ⟨x3, x4, ?_⟩
      have ei : itG (n + 1) G = itG n g := by
        show (match s1 G 6 0 with | some g => itG n g | none => G) = itG n g
        rw [hs]
      rw [l1.1 g hs, qB_some, psh_some, b_X2_lentWhenCleared_41_41, w32_id (by omega) (by omega), ei]
      exact e
end OQ3
