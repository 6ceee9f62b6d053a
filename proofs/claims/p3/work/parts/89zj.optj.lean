/-! THE LAW as the class reads it: its small steps -/
section OTJ
variable {L : Nat} {xs : Nat → Int} {d : Nat} {v : Nat → Nat → Int} {b : Nat → Int} {e D : Nat} {k f : Int} {l : List Int}
/-- where it reads, the fault, what is drafted (in cell D) -/
def kdS (v : Nat → Nat → Int) (D : Nat) (k f : Int) (l : List Int) : Nat → Nat → Int := fun c j => if c = 23 then (if j = 8 then k else if j = 9 then f else if j = 6 then (l.length : Int) else v c j) else if c = D then (l[j]?).getD (v c j) else v c j
theorem kd_8 : kdS v D k f l 23 8 = k := rfl
theorem kd_9 : kdS v D k f l 23 9 = f := rfl
theorem kd_6 : kdS v D k f l 23 6 = (l.length : Int) := rfl
theorem kd_23 {j : Nat} (h : j ≠ 8 ∧ j ≠ 9 ∧ j ≠ 6) : kdS v D k f l 23 j = v 23 j := by
  unfold kdS
  rw [if_pos rfl, if_neg h.1, if_neg h.2.1, if_neg h.2.2]
theorem kd_ne {c j : Nat} (h : c ≠ 23) (h2 : c ≠ D) : kdS v D k f l c j = v c j := by
  unfold kdS
  rw [if_neg h, if_neg h2]
theorem kd_u8 (z : Int) : pm_up (kdS v D k f l) 23 8 z = kdS v D z f l := by
  funext c j
  unfold pm_up kdS
  by_cases g : c = 23
  · by_cases g2 : j = 8
    · rw [if_pos ⟨g, g2⟩, if_pos g, if_pos g2]
    · rw [if_neg (fun t => g2 t.2), if_pos g, if_pos g, if_neg g2, if_neg g2]
  · rw [if_neg (fun t => g t.1), if_neg g, if_neg g]
theorem kd_u9 (z : Int) : pm_up (kdS v D k f l) 23 9 z = kdS v D k z l := by
  funext c j
  unfold pm_up kdS
  by_cases g : c = 23
  · by_cases g2 : j = 9
    · rw [if_pos ⟨g, g2⟩, if_pos g, if_neg (by omega), if_pos g2]
    · rw [if_neg (fun t => g2 t.2), if_pos g, if_pos g, if_neg g2, if_neg g2]
  · rw [if_neg (fun t => g t.1), if_neg g, if_neg g]
theorem kd_w (hD : D ≠ 23) (z : Int) : pm_up (pm_up (kdS v D k f l) D l.length z) 23 6 ((l.length : Int) + 1) = kdS v D k f (l ++ [z]) := by
  have hl : (l ++ [z]).length = l.length + 1 := by
    rw [List.length_append]
    rfl
  funext c j
  unfold pm_up kdS
  by_cases g : c = 23
  · by_cases g2 : j = 6
    · rw [if_pos ⟨g, g2⟩, if_pos g, if_neg (by omega), if_neg (by omega), if_pos g2, hl]
      omega
    · rw [if_neg (fun t => g2 t.2), if_neg (by omega), if_pos g, if_pos g, if_neg g2, if_neg g2]
  · rw [if_neg (fun t => g t.1), if_neg g, if_neg g]
    by_cases g1 : c = D
    · rw [if_pos g1, if_pos g1]
      by_cases g3 : j = l.length
      · rw [if_pos ⟨g1, g3⟩, g3, List.getElem?_append_right (Nat.le_refl _), Nat.sub_self]
        rfl
      · rw [if_neg (fun t => g3 t.2)]
        by_cases g4 : j < l.length
        · rw [List.getElem?_append_left g4]
        · rw [List.getElem?_append_right (by omega), List.getElem?_eq_none (by omega), List.getElem?_eq_none (by show 1 ≤ _; omega)]
    · rw [if_neg g1, if_neg g1, if_neg (fun t => g1 t.1)]
/-- what it reads: the tape; where it writes -/
def kB (v : Nat → Nat → Int) (b : Nat → Int) (e D : Nat) : Prop := v 23 10 = (e : Int) ∧ e ≤ 120 ∧ (∀ i, i < e → v 24 i = b i ∧ 0 ≤ b i ∧ b i ≤ 255) ∧ (D = 25 ∨ D = 26) ∧ v 23 2 = .ofNat D
theorem k_fail : qE L xs (d + 1) nX5_fail [(2, 23)] (qS (kdS v D k f l)) = some (none, qS (kdS v D k (if f < 0 then k else f) l)) := by
  rw [e_X5_fail, b_X5_fail_0, kd_9]
  by_cases g : f < 0
  · rw [if_pos g, if_pos g, b_X5_fail_7, kd_8, kd_u9, b_X5_fail_15]
  · rw [if_neg g, if_neg g, b_X5_fail_15]
theorem k_write (h : kB v b e D) (hl : l.length ≤ 120) (z : Int) : qE L xs (d + 1) nX5_write [(2, 23), (0, z)] (qS (kdS v D k f l)) = some (none, qS (kdS v D k f (l ++ [z]))) := by
  obtain ⟨h1, h2, h3, h4, h5⟩ := h
  refine (c_write (c := D) h4 ((kd_23 (by omega)).trans h5) (by rw [kd_6]; omega) (by rw [kd_6]; omega) z).trans ?_
  rw [kd_6, Int.toNat_natCast, kd_w (by omega)]
theorem k_digit (h : kB v b e D) {k : Nat} : qE L xs (d + 1) nX5_isDigitAhead [(2, 23)] (qS (kdS v D (k : Int) f l)) = some (some (0, if f < 0 ∧ k < e ∧ dgt (b k) then 1 else 0), qS (kdS v D (k : Int) f l)) := by
  obtain ⟨h1, h2, h3, h4, h5⟩ := h
  have k10 : kdS v D (k : Int) f l 23 10 = (e : Int) := (kd_23 (by omega)).trans h1
  rw [e_X5_isDigitAhead, b_X5_isDigitAhead_0, kd_9]
  by_cases g : f < 0
  · rw [if_pos g, b_X5_isDigitAhead_7, kd_8, k10]
    by_cases g2 : k < e
    · have k24 : kdS v D (k : Int) f l 24 k = b k := (kd_ne (by omega) (by omega)).trans (h3 k g2).1
      rw [if_pos (by omega), b_X5_isDigitAhead_18, kd_8, if_pos (by omega), Int.toNat_natCast, k24, b_X5_isDigitAhead_27]
      by_cases g3 : b k < 48
      · rw [if_pos g3, b_X5_isDigitAhead_50, b_X5_isDigitAhead_51, if_pos (Or.inl rfl), if_neg (fun t => by have := t.2.2.1; omega)]
      · rw [if_neg g3, b_X5_isDigitAhead_32, kd_8, if_pos (by omega), Int.toNat_natCast, k24, b_X5_isDigitAhead_41]
        by_cases g4 : 57 < b k
        · rw [if_pos g4, b_X5_isDigitAhead_50, b_X5_isDigitAhead_51, if_pos (Or.inl rfl), if_neg (fun t => by have := t.2.2.2; omega)]
        · rw [if_neg g4, b_X5_isDigitAhead_46, b_X5_isDigitAhead_51, if_pos (Or.inr rfl), if_pos ⟨g, g2, by omega, by omega⟩]
    · rw [if_neg (by omega), b_X5_isDigitAhead_50, b_X5_isDigitAhead_51, if_pos (Or.inl rfl), if_neg (fun t => g2 t.2.1)]
  · rw [if_neg g, b_X5_isDigitAhead_50, b_X5_isDigitAhead_51, if_pos (Or.inl rfl), if_neg (fun t => g t.1)]
theorem k_digits (h : kB v b e D) (hf : f < 0) (hl : l.length ≤ 120) : ∀ (n k : Nat) (z : Int), n ≤ 4 → k ≤ e → 0 ≤ z → z < 10 ^ (4 - n) → qG L xs (d + 1) CX5_readNumber 4 [(2, 23), (0, z), (0, 4 - (n : Int))] [] (qS (kdS v D (k : Int) f l)) = some (none, qS (kdS v D ((rdNum b e n z k).2 : Int) f (l ++ [(rdNum b e n z k).1])))
  | 0, k, z, hn, hk, h0, hz => by
    rw [b_X5_readNumber_4, if_neg (by omega), b_X5_readNumber_50, k_write h hl, qB_some, psh_none, b_X5_readNumber_55]
    rfl
  | n + 1, k, z, hn, hk, h0, hz => by
    have he := h.2.1
    have z4 : z < 1000 := by
      have : n = 0 ∨ n = 1 ∨ n = 2 ∨ n = 3 := by omega
      rcases this with rfl | rfl | rfl | rfl
      · exact hz
      · have : z < 100 := hz
        omega
      · have : z < 10 := hz
        omega
      · have : z < 1 := hz
        omega
    rw [b_X5_readNumber_4, if_pos (by omega), b_X5_readNumber_9, k_digit h, qB_some, psh_some, b_X5_readNumber_13]
    unfold rdNum
    by_cases g : k < e ∧ dgt (b k)
    · have p : (10 : Int) ^ (4 - n) = 10 * 10 ^ (4 - (n + 1)) := by
        rw [show 4 - n = (4 - (n + 1)) + 1 by omega, Int.pow_succ, Int.mul_comm]
      have dg := g.2
      unfold dgt at dg
      have ih := k_digits h hf hl n (k + 1) (z * 10 + b k - 48) (by omega) (by omega) (by omega) (by rw [p]; omega)
      have k24 : kdS v D (k : Int) f l 24 k = b k := (kd_ne (by omega) (by have := h.2.2.2.1; omega)).trans (h.2.2.1 k g.1).1
      have dv : (if f < 0 ∧ k < e ∧ dgt (b k) then (1 : Int) else 0) = 1 := if_pos ⟨hf, g⟩
      rw [dv, if_neg (by decide), b_X5_readNumber_16, kd_8, if_pos (by omega), Int.toNat_natCast, k24, b_X5_readNumber_29, kd_8, kd_u8, w32_id (z := (k : Int) + 1) (by omega) (by omega), w32_id (z := z * 10) (by omega) (by omega), w32_id (z := z * 10 + b k) (by omega) (by omega), w32_id (z := z * 10 + b k - 48) (by omega) (by omega), b_X5_readNumber_44, w32_id (by omega) (by omega), if_pos g]
      rw [show ((k + 1 : Nat) : Int) = (k : Int) + 1 by omega, show 4 - (n : Int) = 4 - ((n + 1 : Nat) : Int) + 1 by omega] at ih
      exact ih
    · have dv : (if f < 0 ∧ k < e ∧ dgt (b k) then (1 : Int) else 0) = 0 := if_neg (fun t => g t.2)
      rw [dv, if_pos rfl, b_X5_readNumber_50, k_write h hl, qB_some, psh_none, b_X5_readNumber_55, if_neg g]
theorem k_number (h : kB v b e D) {k : Nat} (hf : f < 0) (hl : l.length ≤ 120) (hk : k ≤ e) : qE L xs (d + 2) nX5_readNumber [(2, 23)] (qS (kdS v D (k : Int) f l)) = some (none, qS (kdS v D ((rdNum b e 4 0 k).2 : Int) f (l ++ [(rdNum b e 4 0 k).1]))) := by
  rw [e_X5_readNumber, b_X5_readNumber_0]
  exact k_digits h hf hl 4 k 0 (by omega) hk (by omega) (by decide)
theorem k_skip (h : kB v b e D) (r : Nat) (zf : Int → Int) (hb : ∀ (u : Nat → Nat → Int) (y : Int), 0 ≤ y → y ≤ 255 → qG L xs (d + 4) CX5_skip 29 [(2, 23), (2, .ofNat r)] [(0, y), (2, .ofNat r)] (qS u) = qG L xs (d + 4) CX5_skip 32 [(2, 23), (2, .ofNat r)] [(0, zf y)] (qS u)) {k : Nat} : qE L xs (d + 5) nX5_skip [(2, 23), (2, .ofNat r)] (qS (kdS v D (k : Int) f l)) = if f < 0 ∧ k < e ∧ 0 ≤ zf (b k) then some (some (0, b k), qS (kdS v D ((k : Int) + 1) f l)) else some (some (0, 0), qS (kdS v D (k : Int) f l)) := by
  obtain ⟨h1, h2, h3, h4, h5⟩ := h
  have k10 : kdS v D (k : Int) f l 23 10 = (e : Int) := (kd_23 (by omega)).trans h1
  rw [show d + 5 = d + 4 + 1 from rfl, e_X5_skip, b_X5_skip_0, kd_9]
  by_cases g : f < 0
  · rw [if_pos g, b_X5_skip_7, kd_8, k10]
    by_cases g2 : k < e
    · obtain ⟨g3, g4, g5⟩ := h3 k g2
      have k24 : ∀ k2 : Int, kdS v D k2 f l 24 k = b k := fun k2 => (kd_ne (by omega) (by omega)).trans g3
      rw [if_pos (by omega), b_X5_skip_18, kd_8, if_pos (by omega), Int.toNat_natCast, k24, b_X5_skip_28, show b k % 65536 = b k by omega, hb _ _ g4 g5, b_X5_skip_32]
      by_cases g6 : zf (b k) < 0
      · rw [if_pos g6, if_neg (fun t => by have := t.2.2; omega), b_X5_skip_35]
      · rw [if_neg g6, if_pos ⟨g, g2, by omega⟩, b_X5_skip_37, kd_8, kd_u8, w32_id (z := (k : Int) + 1) (by omega) (by omega), b_X5_skip_47, kd_8, show (k : Int) + 1 - 1 = (k : Int) by omega, w32_id (z := (k : Int)) (by omega) (by omega), if_pos (by omega), Int.toNat_natCast, k24, b_X5_skip_58]
    · rw [if_neg (by omega), b_X5_skip_35, if_neg (fun t => g2 t.2.1)]
  · rw [if_neg g, b_X5_skip_35, if_neg (fun t => g t.1)]
theorem sk_if {c1 c2 : Prop} [Decidable c1] [Decidable c2] {x y : Option pm_R} (h : c1 ↔ c2) : (if c1 then x else y) = if c2 then x else y := by
  by_cases g : c1
  · rw [if_pos g, if_pos (h.mp g)]
  · rw [if_neg g, if_neg (fun t => g (h.mpr t))]
theorem sk_0 (h : kB v b e D) {k : Nat} : qE L xs (d + 5) nX5_skip [(2, 23), (2, 2000)] (qS (kdS v D (k : Int) f l)) = if f < 0 ∧ k < e ∧ 0 ≤ nmI (b k) then some (some (0, b k), qS (kdS v D ((k : Int) + 1) f l)) else some (some (0, 0), qS (kdS v D (k : Int) f l)) := by
  refine (k_skip (L := L) (xs := xs) (d := d) (f := f) (l := l) (k := k) h 2000 (fun y => if 116 = w8 y then 0 else if 119 = w8 y then 1 else if 111 = w8 y then 2 else if 115 = w8 y then 3 else if 121 = w8 y then 4 else if 100 = w8 y then 5 else -1) (fun u y h0 h1 => Eq.trans (b_X5_skip_29_0 y) (Eq.trans (congrArg (fun o => qB o (fun r σ => qG L xs (d + 4) CX5_skip 32 [(2, 23), (2, 2000)] (pm_psh r []) σ)) (jx_0 (d := d) y h0 h1)) rfl))).trans (sk_if ⟨fun t => ⟨t.1, t.2.1, ?_⟩, fun t => ⟨t.1, t.2.1, ?_⟩⟩)
  · have g := h.2.2.1 k t.2.1
    exact Decidable.byContradiction (fun q => Int.not_le.mpr ((jt_0 (b k) g.2.1 g.2.2).mpr q) t.2.2)
  · have g := h.2.2.1 k t.2.1
    exact Int.not_lt.mp (fun q => (jt_0 (b k) g.2.1 g.2.2).mp q t.2.2)
theorem sk_1 (h : kB v b e D) {k : Nat} : qE L xs (d + 5) nX5_skip [(2, 23), (2, 2001)] (qS (kdS v D (k : Int) f l)) = if f < 0 ∧ k < e ∧ (b k = 40 ∨ b k = 33 ∨ b k = 45) then some (some (0, b k), qS (kdS v D ((k : Int) + 1) f l)) else some (some (0, 0), qS (kdS v D (k : Int) f l)) := by
  refine (k_skip (L := L) (xs := xs) (d := d) (f := f) (l := l) (k := k) h 2001 (fun y => if 40 = w8 y then 0 else if 33 = w8 y then 1 else if 45 = w8 y then 2 else -1) (fun u y h0 h1 => Eq.trans (b_X5_skip_29_1 y) (Eq.trans (congrArg (fun o => qB o (fun r σ => qG L xs (d + 4) CX5_skip 32 [(2, 23), (2, 2001)] (pm_psh r []) σ)) (jx_1 (d := d) y h0 h1)) rfl))).trans (sk_if ⟨fun t => ⟨t.1, t.2.1, ?_⟩, fun t => ⟨t.1, t.2.1, ?_⟩⟩)
  · have g := h.2.2.1 k t.2.1
    exact Decidable.byContradiction (fun q => Int.not_le.mpr ((jt_1 (b k) g.2.1 g.2.2).mpr q) t.2.2)
  · have g := h.2.2.1 k t.2.1
    exact Int.not_lt.mp (fun q => (jt_1 (b k) g.2.1 g.2.2).mp q t.2.2)
theorem sk_2 (h : kB v b e D) {k : Nat} : qE L xs (d + 5) nX5_skip [(2, 23), (2, 2002)] (qS (kdS v D (k : Int) f l)) = if f < 0 ∧ k < e ∧ b k = 41 then some (some (0, b k), qS (kdS v D ((k : Int) + 1) f l)) else some (some (0, 0), qS (kdS v D (k : Int) f l)) := by
  refine (k_skip (L := L) (xs := xs) (d := d) (f := f) (l := l) (k := k) h 2002 (fun y => if 41 = w8 y then 0 else -1) (fun u y h0 h1 => Eq.trans (b_X5_skip_29_2 y) (Eq.trans (congrArg (fun o => qB o (fun r σ => qG L xs (d + 4) CX5_skip 32 [(2, 23), (2, 2002)] (pm_psh r []) σ)) (jx_2 (d := d) y h0 h1)) rfl))).trans (sk_if ⟨fun t => ⟨t.1, t.2.1, ?_⟩, fun t => ⟨t.1, t.2.1, ?_⟩⟩)
  · have g := h.2.2.1 k t.2.1
    exact Decidable.byContradiction (fun q => Int.not_le.mpr ((jt_2 (b k) g.2.1 g.2.2).mpr q) t.2.2)
  · have g := h.2.2.1 k t.2.1
    exact Int.not_lt.mp (fun q => (jt_2 (b k) g.2.1 g.2.2).mp q t.2.2)
theorem sk_3 (h : kB v b e D) {k : Nat} : qE L xs (d + 5) nX5_skip [(2, 23), (2, 2003)] (qS (kdS v D (k : Int) f l)) = if f < 0 ∧ k < e ∧ sgn 0 (b k) then some (some (0, b k), qS (kdS v D ((k : Int) + 1) f l)) else some (some (0, 0), qS (kdS v D (k : Int) f l)) := by
  refine (k_skip (L := L) (xs := xs) (d := d) (f := f) (l := l) (k := k) h 2003 (fun y => if 124 = w8 y then 0 else -1) (fun u y h0 h1 => Eq.trans (b_X5_skip_29_3 y) (Eq.trans (congrArg (fun o => qB o (fun r σ => qG L xs (d + 4) CX5_skip 32 [(2, 23), (2, 2003)] (pm_psh r []) σ)) (jx_3 (d := d) y h0 h1)) rfl))).trans (sk_if ⟨fun t => ⟨t.1, t.2.1, ?_⟩, fun t => ⟨t.1, t.2.1, ?_⟩⟩)
  · have g := h.2.2.1 k t.2.1
    exact Decidable.byContradiction (fun q => Int.not_le.mpr ((jt_3 (b k) g.2.1 g.2.2).mpr q) t.2.2)
  · have g := h.2.2.1 k t.2.1
    exact Int.not_lt.mp (fun q => (jt_3 (b k) g.2.1 g.2.2).mp q t.2.2)
theorem sk_4 (h : kB v b e D) {k : Nat} : qE L xs (d + 5) nX5_skip [(2, 23), (2, 2004)] (qS (kdS v D (k : Int) f l)) = if f < 0 ∧ k < e ∧ sgn 1 (b k) then some (some (0, b k), qS (kdS v D ((k : Int) + 1) f l)) else some (some (0, 0), qS (kdS v D (k : Int) f l)) := by
  refine (k_skip (L := L) (xs := xs) (d := d) (f := f) (l := l) (k := k) h 2004 (fun y => if 38 = w8 y then 0 else -1) (fun u y h0 h1 => Eq.trans (b_X5_skip_29_4 y) (Eq.trans (congrArg (fun o => qB o (fun r σ => qG L xs (d + 4) CX5_skip 32 [(2, 23), (2, 2004)] (pm_psh r []) σ)) (jx_4 (d := d) y h0 h1)) rfl))).trans (sk_if ⟨fun t => ⟨t.1, t.2.1, ?_⟩, fun t => ⟨t.1, t.2.1, ?_⟩⟩)
  · have g := h.2.2.1 k t.2.1
    exact Decidable.byContradiction (fun q => Int.not_le.mpr ((jt_4 (b k) g.2.1 g.2.2).mpr q) t.2.2)
  · have g := h.2.2.1 k t.2.1
    exact Int.not_lt.mp (fun q => (jt_4 (b k) g.2.1 g.2.2).mp q t.2.2)
theorem sk_5 (h : kB v b e D) {k : Nat} : qE L xs (d + 5) nX5_skip [(2, 23), (2, 2005)] (qS (kdS v D (k : Int) f l)) = if f < 0 ∧ k < e ∧ sgn 2 (b k) then some (some (0, b k), qS (kdS v D ((k : Int) + 1) f l)) else some (some (0, 0), qS (kdS v D (k : Int) f l)) := by
  refine (k_skip (L := L) (xs := xs) (d := d) (f := f) (l := l) (k := k) h 2005 (fun y => if 60 = w8 y then 0 else if 61 = w8 y then 1 else if 62 = w8 y then 2 else -1) (fun u y h0 h1 => Eq.trans (b_X5_skip_29_5 y) (Eq.trans (congrArg (fun o => qB o (fun r σ => qG L xs (d + 4) CX5_skip 32 [(2, 23), (2, 2005)] (pm_psh r []) σ)) (jx_5 (d := d) y h0 h1)) rfl))).trans (sk_if ⟨fun t => ⟨t.1, t.2.1, ?_⟩, fun t => ⟨t.1, t.2.1, ?_⟩⟩)
  · have g := h.2.2.1 k t.2.1
    exact Decidable.byContradiction (fun q => Int.not_le.mpr ((jt_5 (b k) g.2.1 g.2.2).mpr q) t.2.2)
  · have g := h.2.2.1 k t.2.1
    exact Int.not_lt.mp (fun q => (jt_5 (b k) g.2.1 g.2.2).mp q t.2.2)
theorem sk_6 (h : kB v b e D) {k : Nat} : qE L xs (d + 5) nX5_skip [(2, 23), (2, 2006)] (qS (kdS v D (k : Int) f l)) = if f < 0 ∧ k < e ∧ sgn 3 (b k) then some (some (0, b k), qS (kdS v D ((k : Int) + 1) f l)) else some (some (0, 0), qS (kdS v D (k : Int) f l)) := by
  refine (k_skip (L := L) (xs := xs) (d := d) (f := f) (l := l) (k := k) h 2006 (fun y => if 43 = w8 y then 0 else if 45 = w8 y then 1 else -1) (fun u y h0 h1 => Eq.trans (b_X5_skip_29_6 y) (Eq.trans (congrArg (fun o => qB o (fun r σ => qG L xs (d + 4) CX5_skip 32 [(2, 23), (2, 2006)] (pm_psh r []) σ)) (jx_6 (d := d) y h0 h1)) rfl))).trans (sk_if ⟨fun t => ⟨t.1, t.2.1, ?_⟩, fun t => ⟨t.1, t.2.1, ?_⟩⟩)
  · have g := h.2.2.1 k t.2.1
    exact Decidable.byContradiction (fun q => Int.not_le.mpr ((jt_6 (b k) g.2.1 g.2.2).mpr q) t.2.2)
  · have g := h.2.2.1 k t.2.1
    exact Int.not_lt.mp (fun q => (jt_6 (b k) g.2.1 g.2.2).mp q t.2.2)
theorem sk_7 (h : kB v b e D) {k : Nat} : qE L xs (d + 5) nX5_skip [(2, 23), (2, 2007)] (qS (kdS v D (k : Int) f l)) = if f < 0 ∧ k < e ∧ sgn 4 (b k) then some (some (0, b k), qS (kdS v D ((k : Int) + 1) f l)) else some (some (0, 0), qS (kdS v D (k : Int) f l)) := by
  refine (k_skip (L := L) (xs := xs) (d := d) (f := f) (l := l) (k := k) h 2007 (fun y => if 42 = w8 y then 0 else if 47 = w8 y then 1 else if 37 = w8 y then 2 else -1) (fun u y h0 h1 => Eq.trans (b_X5_skip_29_7 y) (Eq.trans (congrArg (fun o => qB o (fun r σ => qG L xs (d + 4) CX5_skip 32 [(2, 23), (2, 2007)] (pm_psh r []) σ)) (jx_7 (d := d) y h0 h1)) rfl))).trans (sk_if ⟨fun t => ⟨t.1, t.2.1, ?_⟩, fun t => ⟨t.1, t.2.1, ?_⟩⟩)
  · have g := h.2.2.1 k t.2.1
    exact Decidable.byContradiction (fun q => Int.not_le.mpr ((jt_7 (b k) g.2.1 g.2.2).mpr q) t.2.2)
  · have g := h.2.2.1 k t.2.1
    exact Int.not_lt.mp (fun q => (jt_7 (b k) g.2.1 g.2.2).mp q t.2.2)
theorem sk_8 (h : kB v b e D) {k : Nat} : qE L xs (d + 5) nX5_skip [(2, 23), (2, 2008)] (qS (kdS v D (k : Int) f l)) = if f < 0 ∧ k < e ∧ b k = 63 then some (some (0, b k), qS (kdS v D ((k : Int) + 1) f l)) else some (some (0, 0), qS (kdS v D (k : Int) f l)) := by
  refine (k_skip (L := L) (xs := xs) (d := d) (f := f) (l := l) (k := k) h 2008 (fun y => if 63 = w8 y then 0 else -1) (fun u y h0 h1 => Eq.trans (b_X5_skip_29_8 y) (Eq.trans (congrArg (fun o => qB o (fun r σ => qG L xs (d + 4) CX5_skip 32 [(2, 23), (2, 2008)] (pm_psh r []) σ)) (jx_8 (d := d) y h0 h1)) rfl))).trans (sk_if ⟨fun t => ⟨t.1, t.2.1, ?_⟩, fun t => ⟨t.1, t.2.1, ?_⟩⟩)
  · have g := h.2.2.1 k t.2.1
    exact Decidable.byContradiction (fun q => Int.not_le.mpr ((jt_8 (b k) g.2.1 g.2.2).mpr q) t.2.2)
  · have g := h.2.2.1 k t.2.1
    exact Int.not_lt.mp (fun q => (jt_8 (b k) g.2.1 g.2.2).mp q t.2.2)
theorem sk_9 (h : kB v b e D) {k : Nat} : qE L xs (d + 5) nX5_skip [(2, 23), (2, 2009)] (qS (kdS v D (k : Int) f l)) = if f < 0 ∧ k < e ∧ b k = 59 then some (some (0, b k), qS (kdS v D ((k : Int) + 1) f l)) else some (some (0, 0), qS (kdS v D (k : Int) f l)) := by
  refine (k_skip (L := L) (xs := xs) (d := d) (f := f) (l := l) (k := k) h 2009 (fun y => if 59 = w8 y then 0 else -1) (fun u y h0 h1 => Eq.trans (b_X5_skip_29_9 y) (Eq.trans (congrArg (fun o => qB o (fun r σ => qG L xs (d + 4) CX5_skip 32 [(2, 23), (2, 2009)] (pm_psh r []) σ)) (jx_9 (d := d) y h0 h1)) rfl))).trans (sk_if ⟨fun t => ⟨t.1, t.2.1, ?_⟩, fun t => ⟨t.1, t.2.1, ?_⟩⟩)
  · have g := h.2.2.1 k t.2.1
    exact Decidable.byContradiction (fun q => Int.not_le.mpr ((jt_9 (b k) g.2.1 g.2.2).mpr q) t.2.2)
  · have g := h.2.2.1 k t.2.1
    exact Int.not_lt.mp (fun q => (jt_9 (b k) g.2.1 g.2.2).mp q t.2.2)
end OTJ
