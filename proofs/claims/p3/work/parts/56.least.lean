/-! WALKS: the least, and both ways of telling it -/
section LE
variable {L : Nat} {xs : Nat → Int} {d : Nat} {v : Nat → Nat → Int}
variable {E E' : Nat → Nat → Int → Prop} {P s p : Nat} {I I' x y : Int} {m : Nat → Int}
theorem Wk_mono (hE : ∀ a b k, E a b k → E' a b k) {n : Nat} {w : Int} (h : Wk E n s p w) : Wk E' n s p w := by
  obtain ⟨f, c, h1, h2, h3, h4, h5⟩ := h
  exact ⟨f, c, h1, h2, h3, h4, fun i hi => hE _ _ _ (h5 i hi)⟩
theorem Wk_rev {n : Nat} {w : Int} (h : Wk (fun a b k => E b a k) n s p w) : Wk E n p s w := by
  obtain ⟨f, c, h1, h2, h3, h4, h5⟩ := h
  refine ⟨fun i => f (n - i), fun i => w - c (n - i), ?_, ?_, ?_, ?_, fun i hi => ?_⟩
  · exact h3
  · show w - c n = 0
    omega
  · show f (n - n) = s
    rw [Nat.sub_self]; exact h1
  · show w - c (n - n) = w
    rw [Nat.sub_self, h2]; omega
  · show E (f (n - i)) (f (n - (i + 1))) (w - c (n - (i + 1)) - (w - c (n - i)))
    have h6 := h5 (n - (i + 1)) (by omega)
    rw [show n - (i + 1) + 1 = n - i by omega] at h6
    rw [show w - c (n - (i + 1)) - (w - c (n - i)) = c (n - i) - c (n - (i + 1)) by omega]
    exact h6
theorem IsD_up (hE : ∀ a b k, E' a b k → E a b k) (hE2 : ∀ a b k, E a b k → ∃ k', k' ≤ k ∧ E' a b k') (h : IsD E' P s I m) : IsD E P s I m := by
  obtain ⟨h1, h2, h3, h4⟩ := h
  refine ⟨h1, fun a b k he ha => ?_, fun p hp hm => ?_, h4⟩
  · obtain ⟨k', hk, he'⟩ := hE2 a b k he
    have := h2 a b k' he' ha
    omega
  · obtain ⟨n, hn⟩ := h3 p hp hm
    exact ⟨n, Wk_mono hE hn⟩
/-- x is the least of the walks from s to p; I: there is none -/
def Lst (E : Nat → Nat → Int → Prop) (s p : Nat) (I x : Int) : Prop := (0 ≤ x ∧ x ≤ 5841 ∧ (∃ n, Wk E n s p x) ∧ ∀ n w, Wk E n s p w → x ≤ w) ∨ (x = I ∧ ∀ n w, ¬ Wk E n s p w)
theorem IsD_Lst (hE : Okg E P 99) (hP : P ≤ 60) (hs : s < P) (hp : p < P) (hI : 5841 < I) (h : IsD E P s I m) : Lst E s p I (m p) := by
  by_cases hr : ∃ n w, Wk E n s p w
  · obtain ⟨n, w, hw⟩ := hr
    have a := IsD_fin hE hs h (by decide) hw
    have b : (99 : Int) * ((P - 1 : Nat) : Int) ≤ 5841 := by omega
    obtain ⟨n1, w1⟩ := h.2.2.1 p hp (by omega)
    exact Or.inl ⟨(Wk_cost hE w1).1, by omega, ⟨n1, w1⟩, fun n w hw => IsD_le hE hs h hw⟩
  · have hn : ∀ n w, ¬ Wk E n s p w := fun n w hw => hr ⟨n, w, hw⟩
    refine Or.inr ⟨?_, hn⟩
    have a := h.2.2.2 p hp
    by_cases hl : m p < I
    · obtain ⟨n, hw⟩ := h.2.2.1 p hp hl
      exact absurd hw (hn _ _)
    · omega
theorem Lst_one (h : Lst E s p I x) (h' : Lst E s p I' y) : (0 ≤ x ∧ x ≤ 5841 ∧ y = x ∧ ∃ n, Wk E n s p x) ∨ (x = I ∧ y = I' ∧ ∀ n w, ¬ Wk E n s p w) := by
  rcases h with ⟨h1, h2, ⟨n, h3⟩, h4⟩ | ⟨h1, h2⟩
  · rcases h' with ⟨g1, g2, ⟨n', g3⟩, g4⟩ | ⟨g1, g2⟩
    · have a := h4 _ _ g3
      have b := g4 _ _ h3
      exact Or.inl ⟨h1, h2, by omega, n, h3⟩
    · exact absurd h3 (g2 _ _)
  · rcases h' with ⟨g1, g2, ⟨n', g3⟩, g4⟩ | ⟨g1, g2⟩
    · exact absurd g3 (h2 _ _)
    · exact Or.inr ⟨h1, g1, h2⟩
theorem Lst_rev (h : Lst (fun a b k => E b a k) s p I x) : Lst E p s I x := by
  rcases h with ⟨h1, h2, ⟨n, h3⟩, h4⟩ | ⟨h1, h2⟩
  · exact Or.inl ⟨h1, h2, ⟨n, Wk_rev h3⟩, fun n w hw => h4 n w (Wk_rev (E := fun a b k => E b a k) hw)⟩
  · exact Or.inr ⟨h1, fun n w hw => h2 n w (Wk_rev (E := fun a b k => E b a k) hw)⟩
theorem SG_ok {c : Nat → Nat → Nat → Int} {al sh sl : Int} (hW : WW v) (hc : ∀ y s u, 1 ≤ c y s u ∧ c y s u ≤ 99) (hP : 2 * v 11 0 = (P : Int)) (hal : al < v 11 0) : Okg (SG v c al sh sl) P 99 := by
  obtain ⟨q1, q2, q3, q4, q5, q6⟩ := hW
  intro a b k he
  have T : ∀ y : Int, 0 ≤ y → y < v 11 0 → thr y.toNat a b → a < P ∧ b < P := fun y h1 h2 h3 => by
    unfold thr at h3
    omega
  unfold SG at he
  rcases he with (⟨w1, w2, w3⟩ | ⟨w1, w2, w3⟩) | ⟨h, w1, w2, ⟨w3, w4, w5⟩, w6, w7⟩ | ⟨w1, w2, w3⟩ | ⟨l, w1, w2, ⟨w3, w4, w5, w6⟩, w7, w8⟩ | ⟨w1, w2, w3⟩ | ⟨w1, w2, w3⟩
  · have := hc (a / 2) (a % 2) 1
    omega
  · have := hc (a / 2) (a % 2) 0
    omega
  · have t1 := T _ w4 w5 w6
    have t2 := (q4 h (by omega)).1
    omega
  · have t1 := T _ w1 hal w2
    omega
  · have t2 := (q4 l (by omega)).2
    omega
  · have t1 := T 0 (by omega) (by omega) w2
    omega
  · have t1 := T _ (by omega) (by omega) w2
    omega
theorem MH_MOK {T : Nat → Nat → Int → Prop} {N : Nat} (hN : N ≤ 60) (h : MH v T) : MOK v N := ⟨hN, fun a b ha hb => by
  rcases h.1 a b (by omega) (by omega) with w | w
  · exact Or.inr w
  · exact Or.inl (h.2.2 a b _ w).2.2⟩
theorem MH_E {T : Nat → Nat → Int → Prop} {N : Nat} (h : MH v T) (a b : Nat) (k : Int) (he : EM v N a b k) (hN : N ≤ 60) : T a b k := by
  obtain ⟨h1, h2, h3, h4⟩ := he
  rcases h.1 a b (by omega) (by omega) with w | w
  · omega
  · rw [h3] at w
    exact w
theorem MH_IsD {T : Nat → Nat → Int → Prop} {N : Nat} (hN : N ≤ 60) (hT : Okg T N 99) (h : MH v T) (hD : IsD (EM v N) N s I m) : IsD T N s I m := IsD_up (fun a b k he => MH_E h a b k he hN) (fun a b k he => by
  obtain ⟨h1, h2, h3⟩ := hT a b k he
  have h4 := h.2.1 a b k he
  exact ⟨v 74 (60 * a + b), h4, h1, h2, rfl, by omega⟩) hD
/-- the reference's ways from a place, its steps asked -/
theorem m_from {T : Nat → Nat → Int → Prop} {N : Nat} (hN : N ≤ 60) (hY : 2 * v 64 140 = (N : Int)) (hT : Okg T N 99) (h : MH v T) (hs : s < N) : ∃ v', qE L xs (d + 2) nX12_goesFrom [(2, 63), (0, (s : Int))] (qS v) = some (none, qS v') ∧ (∀ c, c ≠ 75 → c ≠ 76 → v' c = v c) ∧ ∀ p, p < N → Lst T s p 1000000 (v' 75 p) := by
  obtain ⟨v1, e1, e2, e3⟩ := m_goesFrom (L := L) (xs := xs) (d := d) hY (MH_MOK hN h) hs
  exact ⟨v1, e1, e2, fun p hp => IsD_Lst hT hN hs hp (by decide) (MH_IsD hN hT h e3)⟩
theorem m_wayFrom {T : Nat → Nat → Int → Prop} {N : Nat} (hN : N ≤ 60) (hY : 2 * v 64 140 = (N : Int)) (hT : Okg T N 99) (h : MH v T) (hs : s < N) (hp : p < N) : ∃ v' r, qE L xs (d + 3) nX12_wayFrom [(2, 63), (0, (s : Int)), (0, (p : Int))] (qS v) = some (some (0, r), qS v') ∧ (∀ c, c ≠ 75 → c ≠ 76 → v' c = v c) ∧ Lst T s p (-2) r := by
  obtain ⟨v1, e1, e2, e3⟩ := m_from (L := L) (xs := xs) (d := d) hN hY hT h hs
  have e4 := e3 p hp
  refine ⟨v1, if v1 75 p < 1000000 then v1 75 p else -2, ?_, e2, ?_⟩
  · rw [e_X12_wayFrom, b_X12_wayFrom_0, e1, qB_some, psh_none, b_X12_wayFrom_5, if_pos (by omega), Int.toNat_natCast, b_X12_wayFrom_11]
    by_cases g : v1 75 p < 1000000
    · rw [if_pos g, if_pos g, b_X12_wayFrom_16, if_pos (by omega), Int.toNat_natCast, b_X12_wayFrom_22, b_X12_wayFrom_27]
    · rw [if_neg g, if_neg g, b_X12_wayFrom_25, b_X12_wayFrom_27]
  · rcases e4 with ⟨h1, h2, h3, h4⟩ | ⟨h1, h2⟩
    · rw [if_pos (by omega)]
      exact Or.inl ⟨h1, h2, h3, h4⟩
    · rw [if_neg (by omega)]
      exact Or.inr ⟨rfl, h2⟩
theorem EC_E {v' : Nat → Nat → Int} {S : Nat} {c : Nat → Nat → Nat → Int} (hW : WW v) (h : LyI v' S P (TT v c)) {x : Int} (hx : -1 ≤ x) : EC v' S x = SG v c (-1) (if x < 12 then x else -1) (if x < 12 then -1 else x - 12) := by
  funext a b k
  exact propext (EC_SG hW h hx a b k)
/-- the class's ways from a place, its steps laid -/
theorem c_from {S : Nat} {T : Nat → Nat → Int → Prop} {z : Int} (h : WOK v S P) (hE : EC v S z = T) (hs : s < P) : ∃ v', qE L xs (d + 3) nX10_spread [(2, 29), (0, (s : Int)), (0, z)] (qS v) = some (none, qS v') ∧ (∀ c, c ≠ 34 → v' c = v c) ∧ ∀ p, p < P → Lst T s p 9999 (v' 34 p) := by
  obtain ⟨v1, e1, e2, e3⟩ := c_spread (L := L) (xs := xs) (d := d) (x := z) h hs
  have hO := EC_ok (x := z) h
  rw [hE] at e3 hO
  exact ⟨v1, e1, e2, fun p hp => IsD_Lst hO h.2.2.2.1 hs hp (by decide) e3⟩
theorem c_back {S : Nat} {T : Nat → Nat → Int → Prop} (h : WOK v S P) (hE : EC v S (-1) = T) (hs : s < P) : ∃ v', qE L xs (d + 3) nX10_spreadBack [(2, 29), (0, (s : Int))] (qS v) = some (none, qS v') ∧ (∀ c, c ≠ 34 → v' c = v c) ∧ ∀ p, p < P → Lst T p s 9999 (v' 34 p) := by
  obtain ⟨v1, e1, e2, e3⟩ := c_spreadBack (L := L) (xs := xs) (d := d) h hs
  have hO := EB_ok h
  have hB : EB v S = fun a b k => T b a k := by
    funext a b k
    show EC v S (-1) b a k = _
    rw [hE]
  rw [hB] at e3 hO
  exact ⟨v1, e1, e2, fun p hp => Lst_rev (IsD_Lst hO h.2.2.2.1 hs hp (by decide) e3)⟩
end LE
