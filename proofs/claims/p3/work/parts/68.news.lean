/-! NEWS: when it is heard; the least way of a ladder -/
section NW
variable {L : Nat} {xs : Nat → Int} {d : Nat} {v : Nat → Nat → Int} {P : Nat}
def aD (x y : Nat) : Int := if x ≤ y then (y : Int) - (x : Int) else (x : Int) - (y : Int)
theorem abs_aD (x y : Nat) (hx : x < 100) (hy : y < 100) : pm_abs (w32 ((x : Int) - (y : Int))) = aD x y := by
  rw [w32_id (by omega) (by omega)]
  unfold pm_abs aD
  by_cases h : 0 ≤ (x : Int) - (y : Int)
  · rw [if_pos h]
    split <;> omega
  · rw [if_neg h, if_pos (by omega), w32_id (by omega) (by omega)]
    omega
theorem mul_b {x t : Int} (h1 : 0 ≤ x) (h2 : x ≤ 58) (h3 : 1 ≤ t) (h4 : t ≤ 30) : 0 ≤ x * t ∧ x * t ≤ 1740 := by
  have a := Int.mul_nonneg h1 (show 0 ≤ t by omega)
  have b := Int.mul_le_mul h2 h4 (show 0 ≤ t by omega) (show (0 : Int) ≤ 58 by decide)
  omega
theorem aD_in (x y : Nat) (hx : x < 30) (hy : y < 30) : 0 ≤ aD x y ∧ aD x y ≤ 29 := by
  unfold aD
  split <;> omega
theorem aD_self (x : Nat) : aD x x = 0 := by
  unfold aD
  rw [if_pos (Nat.le_refl x)]
  omega
theorem aD_tri (x y z : Nat) : aD x z ≤ aD x y + aD y z := by
  unfold aD
  split <;> split <;> split <;> omega
theorem aD_next (x y : Nat) : aD x (y + 1) ≤ aD x y + 1 ∧ aD x y ≤ aD x (y + 1) + 1 := by
  unfold aD
  split <;> split <;> omega
def hL (th : Nat → Int) (tl : Int) (p q : Nat) : Nat → Int
  | 0 => aD p q * tl + th p
  | y + 1 => pm_min (hL th tl p q y) ((aD p y + aD y q) * tl + th y)
def hN (th : Nat → Int) (tl : Int) (Y a b : Nat) : Int := if a % 2 = b % 2 then aD (a / 2) (b / 2) * tl else hL th tl (a / 2) (b / 2) Y
theorem hL_le (th : Nat → Int) (tl : Int) (p q : Nat) : ∀ j y, y < j → hL th tl p q j ≤ (aD p y + aD y q) * tl + th y
  | 0, y, h => absurd h (by omega)
  | j + 1, y, h => by
    have m := mn_le (hL th tl p q j) ((aD p j + aD j q) * tl + th j)
    show pm_min (hL th tl p q j) ((aD p j + aD j q) * tl + th j) ≤ _
    by_cases hy : y = j
    · subst hy
      exact m.2.1
    · have := hL_le th tl p q j y (by omega)
      omega
theorem hL_is (th : Nat → Int) (tl : Int) {p q Y : Nat} (hp : p < Y) : ∀ j, j ≤ Y → ∃ y, y < Y ∧ hL th tl p q j = (aD p y + aD y q) * tl + th y
  | 0, _ => ⟨p, hp, by
    rw [aD_self, Int.zero_add]
    rfl⟩
  | j + 1, hj => by
    have m := mn_le (hL th tl p q j) ((aD p j + aD j q) * tl + th j)
    rcases m.2.2 with h | h
    · obtain ⟨y, h1, h2⟩ := hL_is th tl hp j (by omega)
      exact ⟨y, h1, h.trans h2⟩
    · exact ⟨j, by omega, h⟩
/-- the ladder -/
def nT (th : Nat → Int) (tl : Int) (Y : Nat) (a b : Nat) (k : Int) : Prop := (∃ y, y < Y ∧ thr y a b ∧ k = th y) ∨ ((b = a + 2 ∨ a = b + 2) ∧ a < 2 * Y ∧ b < 2 * Y ∧ k = tl)
theorem nT_ok {th : Nat → Int} {tl : Int} {Y : Nat} (hth : ∀ y, y < Y → 1 ≤ th y ∧ th y ≤ 9) (htl : 1 ≤ tl ∧ tl ≤ 30) : Okg (nT th tl Y) (2 * Y) 99 := fun a b k he => by
  rcases he with ⟨y, h1, h2, h3⟩ | ⟨h1, h2, h3, h4⟩
  · have := hth y h1
    unfold thr at h2
    omega
  · omega
/-- along a side -/
theorem nT_up {th : Nat → Int} {tl : Int} {Y : Nat} (x : Nat) : ∀ n, x + 2 * n < 2 * Y → Wk (nT th tl Y) n x (x + 2 * n) ((n : Int) * tl)
  | 0, _ => by
    rw [show ((0 : Nat) : Int) * tl = 0 by rw [show ((0 : Nat) : Int) = 0 from rfl, Int.zero_mul]]
    exact Wk_0 x
  | n + 1, h => by
    have ih := nT_up (th := th) (tl := tl) (Y := Y) x n (by omega)
    have := Wk_snoc ih (Or.inr ⟨Or.inl rfl, by omega, by omega, rfl⟩ : nT th tl Y (x + 2 * n) (x + 2 * n + 2) tl)
    rw [show x + 2 * (n + 1) = x + 2 * n + 2 by omega, show ((n + 1 : Nat) : Int) * tl = (n : Int) * tl + tl by rw [show ((n + 1 : Nat) : Int) = (n : Int) + 1 by omega, Int.add_mul, Int.one_mul]]
    exact this
theorem nT_sym {th : Nat → Int} {tl : Int} {Y : Nat} (a b : Nat) (k : Int) (h : nT th tl Y a b k) : nT th tl Y b a k := by
  rcases h with ⟨y, h1, h2, h3⟩ | ⟨h1, h2, h3, h4⟩
  · refine Or.inl ⟨y, h1, ?_, h3⟩
    unfold thr at h2 ⊢
    omega
  · exact Or.inr ⟨by omega, h3, h2, h4⟩
theorem nT_dn {th : Nat → Int} {tl : Int} {Y n p q : Nat} {w : Int} (h : Wk (nT th tl Y) n p q w) : Wk (nT th tl Y) n q p w := Wk_rev (Wk_mono (fun a b k he => nT_sym a b k he) h)
theorem nT_along {th : Nat → Int} {tl : Int} {Y : Nat} (a b : Nat) (ha : a < 2 * Y) (hb : b < 2 * Y) (hs : a % 2 = b % 2) : ∃ n, Wk (nT th tl Y) n a b (aD (a / 2) (b / 2) * tl) := by
  by_cases h : a ≤ b
  · have := nT_up (th := th) (tl := tl) (Y := Y) a ((b - a) / 2) (by omega)
    rw [show a + 2 * ((b - a) / 2) = b by omega] at this
    refine ⟨(b - a) / 2, ?_⟩
    have e : aD (a / 2) (b / 2) = (((b - a) / 2 : Nat) : Int) := by
      unfold aD
      rw [if_pos (by omega)]
      omega
    rw [e]
    exact this
  · have := nT_up (th := th) (tl := tl) (Y := Y) b ((a - b) / 2) (by omega)
    rw [show b + 2 * ((a - b) / 2) = a by omega] at this
    refine ⟨(a - b) / 2, ?_⟩
    have e : aD (a / 2) (b / 2) = (((a - b) / 2 : Nat) : Int) := by
      unfold aD
      rw [if_neg (by omega)]
      omega
    rw [e]
    exact nT_dn this
theorem hN_in {th : Nat → Int} {tl : Int} {Y a b : Nat} (hY : Y ≤ 30) (hth : ∀ y, y < Y → 1 ≤ th y ∧ th y ≤ 9) (htl : 1 ≤ tl ∧ tl ≤ 30) (ha : a < 2 * Y) (hb : b < 2 * Y) : 0 ≤ hN th tl Y a b ∧ hN th tl Y a b ≤ 1749 := by
  unfold hN
  by_cases h : a % 2 = b % 2
  · rw [if_pos h]
    have h1 := aD_in (a / 2) (b / 2) (by omega) (by omega)
    have := mul_b h1.1 (by omega) htl.1 htl.2
    omega
  · rw [if_neg h]
    obtain ⟨y, h1, h2⟩ := hL_is th tl (p := a / 2) (q := b / 2) (Y := Y) (by omega) Y (Nat.le_refl Y)
    rw [h2]
    have a1 := aD_in (a / 2) y (by omega) (by omega)
    have a2 := aD_in y (b / 2) (by omega) (by omega)
    have := mul_b (x := aD (a / 2) y + aD y (b / 2)) (by omega) (by omega) htl.1 htl.2
    have := hth y h1
    omega
theorem mul_mono {x y t : Int} (h : x ≤ y) (ht : 1 ≤ t) : x * t ≤ y * t := Int.mul_le_mul_of_nonneg_right h (by omega)
theorem mul_mono1 {x y t : Int} (h : x ≤ y + 1) (ht : 1 ≤ t) : x * t ≤ y * t + t := by
  have := mul_mono h ht
  rw [Int.add_mul, Int.one_mul] at this
  exact this
/-- the closed form is the least way -/
theorem hN_Lst {th : Nat → Int} {tl : Int} {Y a b : Nat} (hY : Y ≤ 30) (hth : ∀ y, y < Y → 1 ≤ th y ∧ th y ≤ 9) (htl : 1 ≤ tl ∧ tl ≤ 30) (ha : a < 2 * Y) (hb : b < 2 * Y) : Lst (nT th tl Y) a b 9999 (hN th tl Y a b) := by
  have hin : ∀ b, b < 2 * Y → 0 ≤ hN th tl Y a b ∧ hN th tl Y a b ≤ 1749 := fun b hb => hN_in hY hth htl ha hb
  have same : ∀ b, a % 2 = b % 2 → hN th tl Y a b = aD (a / 2) (b / 2) * tl := fun b h => if_pos h
  have other : ∀ b, ¬ a % 2 = b % 2 → b < 2 * Y → (∀ y, y < Y → hN th tl Y a b ≤ (aD (a / 2) y + aD y (b / 2)) * tl + th y) ∧ ∃ y, y < Y ∧ hN th tl Y a b = (aD (a / 2) y + aD y (b / 2)) * tl + th y := fun b h hb => by
    have e : hN th tl Y a b = hL th tl (a / 2) (b / 2) Y := if_neg h
    rw [e]
    exact ⟨fun y hy => hL_le th tl _ _ Y y hy, hL_is th tl (by omega) Y (Nat.le_refl Y)⟩
  refine IsD_Lst (nT_ok hth htl) (by omega) ha hb (by decide) (m := hN th tl Y a) ⟨?_, fun p q k he hp => ?_, fun p hp hm => ?_, fun p hp => ?_⟩
  · rw [same a rfl, aD_self, Int.zero_mul]
  · have ho := nT_ok hth htl p q k he
    rcases he with ⟨y, h1, h2, h3⟩ | ⟨h1, h2, h3, h4⟩
    · have hyp : p / 2 = y ∧ q / 2 = y ∧ p % 2 ≠ q % 2 := by
        unfold thr at h2
        omega
      by_cases s : a % 2 = p % 2
      · have o := other q (by omega) ho.2.1
        have := o.1 y h1
        rw [hyp.2.1, aD_self, Int.add_zero] at this
        rw [same p s, hyp.1, h3]
        exact this
      · have o := other p s ho.1
        obtain ⟨z, z1, z2⟩ := o.2
        have := hth z z1
        have := hth y h1
        have t := mul_mono (aD_tri (a / 2) z y) htl.1
        rw [same q (by omega), z2, hyp.1, hyp.2.1]
        omega
    · have hyq : (q / 2 = p / 2 + 1 ∨ p / 2 = q / 2 + 1) ∧ p % 2 = q % 2 := by omega
      have nx : ∀ z, aD z (q / 2) ≤ aD z (p / 2) + 1 := fun z => by
        rcases hyq.1 with e | e
        · rw [e]; exact (aD_next z (p / 2)).1
        · rw [e]; exact (aD_next z (q / 2)).2
      by_cases s : a % 2 = p % 2
      · rw [same p s, same q (by omega), h4]
        exact mul_mono1 (nx _) htl.1
      · have o := other p s ho.1
        have o2 := other q (by omega) ho.2.1
        obtain ⟨z, z1, z2⟩ := o.2
        have := o2.1 z z1
        have n := nx z
        have t := mul_mono1 (x := aD (a / 2) z + aD z (q / 2)) (y := aD (a / 2) z + aD z (p / 2)) (by omega) htl.1
        rw [z2, h4]
        omega
  · by_cases s : a % 2 = p % 2
    · rw [same p s]
      exact nT_along a p ha hp s
    · obtain ⟨z, z1, z2⟩ := (other p s hp).2
      rw [z2]
      obtain ⟨n1, w1⟩ := nT_along (th := th) (tl := tl) (Y := Y) a (2 * z + a % 2) ha (by omega) (by omega)
      obtain ⟨n2, w2⟩ := nT_along (th := th) (tl := tl) (Y := Y) (2 * z + p % 2) p (by omega) hp (by omega)
      have he : nT th tl Y (2 * z + a % 2) (2 * z + p % 2) (th z) := Or.inl ⟨z, z1, by unfold thr; omega, rfl⟩
      have w3 := Wk_app (Wk_snoc w1 he) w2
      rw [show (2 * z + a % 2) / 2 = z by omega, show (2 * z + p % 2) / 2 = z by omega] at w3
      refine ⟨n1 + 1 + n2, ?_⟩
      rw [Int.add_mul, show aD (a / 2) z * tl + aD z (p / 2) * tl + th z = aD (a / 2) z * tl + th z + aD z (p / 2) * tl by omega]
      exact w3
  · have := hin p hp
    omega
/-- the wall's own: news -/
def WN (v : Nat → Nat → Int) : Prop := (2 ≤ v 11 0 ∧ v 11 0 ≤ 30) ∧ (∀ y, y < 30 → 1 ≤ v 3 y ∧ v 3 y ≤ 9) ∧ 1 ≤ v 12 0 ∧ v 12 0 ≤ 30
def CN (v : Nat → Nat → Int) : Prop := v 64 140 = v 11 0 ∧ (∀ y, y < 30 → v 64 y = v 3 y) ∧ v 64 141 = v 12 0
theorem lp_hear {Y a b : Nat} (x1 x2 : Int) (hW : WN v) (hY : v 11 0 = (Y : Int)) (ha : a < Y) (hb : b < Y) : ∀ (n j : Nat) (u8 : pm_V), j + n = Y → qG L xs (d + 3) CX6_hearing 60 [(2, 1), (0, x1), (0, x2), (0, (a : Int)), (0, (b : Int)), (0, v 12 0), (0, hL (v 3) (v 12 0) a b j), (0, (j : Int)), u8] [] (qS v) = some (some (0, hL (v 3) (v 12 0) a b Y), qS v)
  | 0, j, u8, hj => by
    rw [b_X6_hearing_60, c_yardsNow, qB_some, psh_some, b_X6_hearing_66, if_neg (by omega), b_X6_hearing_113, show j = Y by omega]
  | n + 1, j, u8, hj => by
    obtain ⟨q1, q2, q3⟩ := hW
    have ih := lp_hear x1 x2 ⟨q1, q2, q3⟩ hY ha hb n (j + 1) (0, aD a j + aD j b) (by omega)
    refine Eq.trans ?_ ih
    have a1 := aD_in a j (by omega) (by omega)
    have a2 := aD_in j b (by omega) (by omega)
    have a3 := mul_b (x := aD a j + aD j b) (by omega) (by omega) q3.1 q3.2
    have a4 := q2 j (by omega)
    have a0 : hm v 0 = 30 := rfl
    rw [b_X6_hearing_60, c_yardsNow, qB_some, psh_some, b_X6_hearing_66, if_pos (by omega), b_X6_hearing_69, c_value_in 0 j (by omega) (by omega) (by omega) (by omega) (by omega), qB_some, psh_some, show v (3 + (0 : Int).toNat) (j : Int).toNat = v 3 j from rfl, abs_aD a j (by omega) (by omega), abs_aD j b (by omega) (by omega), w32_id (z := aD a j + aD j b) (by omega) (by omega), w32_id (z := (aD a j + aD j b) * v 12 0) (by omega) (by omega), b_X6_hearing_101, w32_id (z := (aD a j + aD j b) * v 12 0 + v 3 j) (by omega) (by omega), w32_id (by omega) (by omega)]
    rfl
theorem c_hearing {Y a b : Nat} (hW : WN v) (hY : v 11 0 = (Y : Int)) (ha : a < 2 * Y) (hb : b < 2 * Y) : qE L xs (d + 4) nX6_hearing [(2, 1), (0, (a : Int)), (0, (b : Int))] (qS v) = some (some (0, hN (v 3) (v 12 0) Y a b), qS v) := by
  obtain ⟨q1, q2, q3⟩ := hW
  have a1 := aD_in (a / 2) (b / 2) (by omega) (by omega)
  have a3 := mul_b (x := aD (a / 2) (b / 2)) (by omega) (by omega) q3.1 q3.2
  have a0 : hm v 0 = 30 := rfl
  have a9 : hm v 9 = 1 := rfl
  rw [e_X6_hearing, b_X6_hearing_0, c_value_in 9 0 (by omega) (by omega) (by omega) (by omega) (by omega), qB_some, psh_some, show v (3 + (9 : Int).toNat) (0 : Int).toNat = v 12 0 from rfl, half_p a (by omega), half_p b (by omega), b_X6_hearing_16, odd_p, odd_p]
  unfold hN
  by_cases h : a % 2 = b % 2
  · rw [if_pos (by omega), if_pos h, b_X6_hearing_27, abs_aD _ _ (by omega) (by omega), w32_id (by omega) (by omega)]
  · have l := lp_hear (L := L) (xs := xs) (d := d) (v := v) (Y := Y) (a := a / 2) (b := b / 2) (a : Int) (b : Int) ⟨q1, q2, q3⟩ hY (by omega) (by omega) Y 0 (9, 0) (by omega)
    have a4 := q2 (a / 2) (by omega)
    rw [if_neg (by omega), if_neg h, b_X6_hearing_38, c_value_in 0 ((a / 2 : Nat) : Int) (by omega) (by omega) (by omega) (by omega) (by omega), qB_some, psh_some, show v (3 + (0 : Int).toNat) (((a / 2 : Nat) : Int)).toNat = v 3 (a / 2) from rfl, abs_aD _ _ (by omega) (by omega), w32_id (z := aD (a / 2) (b / 2) * v 12 0) (by omega) (by omega), b_X6_hearing_54, w32_id (z := aD (a / 2) (b / 2) * v 12 0 + v 3 (a / 2)) (by omega) (by omega)]
    exact l
end NW
