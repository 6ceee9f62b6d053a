/-! WAYS: the steps that are laid -/
section LY
variable {L : Nat} {xs : Nat → Int} {d : Nat} {v : Nat → Nat → Int}
/-- between the two sides of a yard, either way -/
def thr (y a b : Nat) : Prop := (a = 2 * y ∧ b = 2 * y + 1) ∨ (a = 2 * y + 1 ∧ b = 2 * y)
def sUp (Y : Int) (c : Nat → Nat → Nat → Int) (a b : Nat) (k : Int) : Prop := (a : Int) + 2 < 2 * Y ∧ b = a + 2 ∧ k = c (a / 2) (a % 2) 1
def sDn (Y : Int) (c : Nat → Nat → Nat → Int) (a b : Nat) (k : Int) : Prop := (a : Int) < 2 * Y ∧ b + 2 = a ∧ k = c (a / 2) (a % 2) 0
def sHo (v : Nat → Nat → Int) (h : Nat) (a b : Nat) (k : Int) : Prop := (v 6 h = 1 ∧ 0 ≤ v 15 h ∧ v 15 h < v 11 0) ∧ thr (v 15 h).toNat a b ∧ k = v 7 h
def sLa (v : Nat → Nat → Int) (l : Nat) (a b : Nat) (k : Int) : Prop := (v 8 l = 1 ∧ (0 ≤ v 16 l ∧ v 16 l < 2 * v 11 0) ∧ 0 ≤ v 17 l ∧ v 17 l < 2 * v 11 0) ∧ ((a = (v 16 l).toNat ∧ b = (v 17 l).toNat) ∨ (a = (v 17 l).toNat ∧ b = (v 16 l).toNat)) ∧ k = v 9 l
def sRo (v : Nat → Nat → Int) (a b : Nat) (k : Int) : Prop := (0 < v 10 0 ∧ thr 0 a b ∧ k = v 10 0) ∨ (0 < v 10 1 ∧ thr (v 11 0 - 1).toNat a b ∧ k = v 10 1)
/-- the steps as they are laid, each with what it crosses -/
def TT (v : Nat → Nat → Int) (c : Nat → Nat → Nat → Int) (a b : Nat) (k x : Int) : Prop := ((sUp (v 11 0) c a b k ∨ sDn (v 11 0) c a b k) ∧ x = -1) ∨ (∃ h : Nat, (h : Int) < v 1 1 ∧ sHo v h a b k ∧ x = (h : Int)) ∨ (∃ l : Nat, (l : Int) < v 1 2 ∧ sLa v l a b k ∧ x = 12 + (l : Int)) ∨ (sRo v a b k ∧ x = -1)
/-- what holds of the wall -/
def WW (v : Nat → Nat → Int) : Prop := (2 ≤ v 11 0 ∧ v 11 0 ≤ 30) ∧ (0 ≤ v 1 1 ∧ v 1 1 ≤ 12) ∧ (0 ≤ v 1 2 ∧ v 1 2 ≤ 12) ∧ (∀ i, i < 12 → (1 ≤ v 7 i ∧ v 7 i ≤ 9) ∧ 1 ≤ v 9 i ∧ v 9 i ≤ 9) ∧ (0 ≤ v 10 0 ∧ v 10 0 ≤ 99) ∧ 0 ≤ v 10 1 ∧ v 10 1 ≤ 99
/-- the steps of a list -/
def Has (v : Nat → Nat → Int) (S : Nat) (T : Nat → Nat → Int → Int → Prop) : Prop := ∀ (a b : Nat) (k x : Int), (∃ i, i < S ∧ v 30 i = (a : Int) ∧ v 31 i = (b : Int) ∧ v 32 i = k ∧ v 33 i = x) ↔ T a b k x
def LyI (v : Nat → Nat → Int) (S P : Nat) (T : Nat → Nat → Int → Int → Prop) : Prop := WOK v S P ∧ Has v S T
theorem LyI_cg {v w : Nat → Nat → Int} {S P : Nat} {T : Nat → Nat → Int → Int → Prop} (hc : ∀ c, 29 ≤ c → c ≤ 33 → w c = v c) (h : LyI v S P T) : LyI w S P T := by
  unfold LyI WOK Has
  rw [hc 29 (by decide) (by decide), hc 30 (by decide) (by decide), hc 31 (by decide) (by decide), hc 32 (by decide) (by decide), hc 33 (by decide) (by decide)]
  exact h
theorem LyI_if {S P : Nat} {T T' : Nat → Nat → Int → Int → Prop} (hT : ∀ a b k x, T a b k x ↔ T' a b k x) (h : LyI v S P T) : LyI v S P T' := ⟨h.1, fun a b k x => (h.2 a b k x).trans (hT a b k x)⟩
/-- what the law's reckoning may change -/
def fM (v w : Nat → Nat → Int) : Prop := (∀ c, c ≠ 23 → c ≠ 27 → c ≠ 28 → w c = v c) ∧ ∀ k, k ≠ 7 → w 23 k = v 23 k
/-- .. and what the ways may -/
def fW (v w : Nat → Nat → Int) : Prop := (∀ c, c ≠ 23 → c ≠ 27 → c ≠ 28 → c < 29 ∨ 37 < c → w c = v c) ∧ ∀ k, k ≠ 7 → w 23 k = v 23 k
theorem fW_r (v : Nat → Nat → Int) : fW v v := ⟨fun _ _ _ _ _ => rfl, fun _ _ => rfl⟩
theorem fW_t {v w u : Nat → Nat → Int} (h1 : fW v w) (h2 : fW w u) : fW v u := ⟨fun c a b e g => (h2.1 c a b e g).trans (h1.1 c a b e g), fun k hk => (h2.2 k hk).trans (h1.2 k hk)⟩
theorem fM_W {v w : Nat → Nat → Int} (h : fM v w) : fW v w := ⟨fun c a b e _ => h.1 c a b e, h.2⟩
/-- only ways' own cells -/
theorem fW_own {v w : Nat → Nat → Int} (h : ∀ c, c < 29 ∨ 37 < c → w c = v c) : fW v w := ⟨fun c _ _ _ g => h c g, fun k _ => by rw [h 23 (by omega)]⟩
/-- the wall and the law are the same -/
def gW (v w : Nat → Nat → Int) : Prop := (∀ c, c < 23 ∨ (23 < c ∧ c < 27) → w c = v c) ∧ ∀ k, k ≠ 7 → w 23 k = v 23 k
theorem gW_r (v : Nat → Nat → Int) : gW v v := ⟨fun _ _ => rfl, fun _ _ => rfl⟩
theorem gW_t {v w u : Nat → Nat → Int} (h1 : gW v w) (h2 : gW w u) : gW v u := ⟨fun c a => (h2.1 c a).trans (h1.1 c a), fun k hk => (h2.2 k hk).trans (h1.2 k hk)⟩
theorem fW_g {v w : Nat → Nat → Int} (h : fW v w) : gW v w := ⟨fun c _ => h.1 c (by omega) (by omega) (by omega) (by omega), h.2⟩
/-- the law tells c y s u minutes -/
def LM (L : Nat) (xs : Nat → Int) (v : Nat → Nat → Int) (c : Nat → Nat → Nat → Int) : Prop := (∀ y s u, 1 ≤ c y s u ∧ c y s u ≤ 99) ∧ ∀ w, gW v w → ∀ (d y s u : Nat), y < 30 → s < 2 → u < 2 → ∃ w', qE L xs (d + 8) nX5_minutes [(2, 23), (2, 1), (0, (y : Int)), (0, (s : Int)), (0, (u : Int))] (qS w) = some (some (0, c y s u), qS w') ∧ fM w w'
theorem LM_g {v w : Nat → Nat → Int} {c : Nat → Nat → Nat → Int} (h : LM L xs v c) (hw : gW v w) : LM L xs w c := ⟨h.1, fun u hu => h.2 u (gW_t hw hu)⟩
theorem LM_W {v w : Nat → Nat → Int} {c : Nat → Nat → Nat → Int} (h : LM L xs v c) (hw : fW v w) : LM L xs w c := LM_g h (fW_g hw)
theorem WW_W {v w : Nat → Nat → Int} (hw : fW v w) : WW w = WW v := by
  unfold WW
  rw [hw.1 1 (by decide) (by decide) (by decide) (by decide), hw.1 7 (by decide) (by decide) (by decide) (by decide), hw.1 9 (by decide) (by decide) (by decide) (by decide), hw.1 10 (by decide) (by decide) (by decide) (by decide), hw.1 11 (by decide) (by decide) (by decide) (by decide)]
theorem fW_c {v w : Nat → Nat → Int} (hw : fW v w) {c : Nat} (h : c < 23 ∨ 37 < c) : w c = v c := hw.1 c (by omega) (by omega) (by omega) (by omega)
theorem sHo_W {v w : Nat → Nat → Int} (hw : fW v w) : sHo w = sHo v := by
  funext h a b k
  unfold sHo
  rw [fW_c hw (c := 6) (by omega), fW_c hw (c := 15) (by omega), fW_c hw (c := 11) (by omega), fW_c hw (c := 7) (by omega)]
theorem sLa_W {v w : Nat → Nat → Int} (hw : fW v w) : sLa w = sLa v := by
  funext h a b k
  unfold sLa
  rw [fW_c hw (c := 8) (by omega), fW_c hw (c := 16) (by omega), fW_c hw (c := 17) (by omega), fW_c hw (c := 11) (by omega), fW_c hw (c := 9) (by omega)]
theorem half_p (p : Nat) (h : p < 1000) : w32 (Int.tdiv (p : Int) 2) = ((p / 2 : Nat) : Int) := by
  rw [td_pos 2 (by omega), w32_id (by omega) (by omega)]
  omega
theorem odd_p (p : Nat) : Int.tmod (p : Int) 2 = ((p % 2 : Nat) : Int) := by
  rw [tm_pos 2 (by omega)]
  omega
theorem c_add {S P : Nat} {T : Nat → Nat → Int → Int → Prop} (h : LyI v S P T) (hS : S < 172) {a b : Nat} (ha : a < P) (hb : b < P) {k x : Int} (hk : 1 ≤ k ∧ k ≤ 99) : ∃ v', qE L xs (d + 2) nX10_add [(2, 29), (0, (a : Int)), (0, (b : Int)), (0, k), (0, x)] (qS v) = some (none, qS v') ∧ (∀ c, c < 29 ∨ 33 < c → v' c = v c) ∧ LyI v' (S + 1) P (fun a' b' k' x' => T a' b' k' x' ∨ (a' = a ∧ b' = b ∧ k' = k ∧ x' = x)) := by
  obtain ⟨⟨h1, h2, h3, h4, h5⟩, h6⟩ := h
  refine ⟨pm_up (pm_up (pm_up (pm_up (pm_up v 30 S a) 31 S b) 32 S k) 33 S x) 29 8 ((S : Int) + 1), ?_, fun c hc => ?_, ⟨?_, ?_, ?_, h4, fun i hi => ?_⟩, fun a' b' k' x' => ?_⟩
  · rw [e_X10_add, b_X10_add_0, if_pos (by omega), b_X10_add_10, c_isThere ⟨h1, h2, h3, h4, h5⟩, qB_some, psh_some, b_X10_add_15, zb_0, if_pos (by omega), b_X10_add_18, c_isThere ⟨h1, h2, h3, h4, h5⟩, qB_some, psh_some, b_X10_add_23, zb_0, if_pos (by omega), b_X10_add_26, if_pos (by omega), h1, Int.toNat_natCast, b_X10_add_36]
    simp (disch := omega) only [up_ne, h1, if_pos, Int.toNat_natCast, b_X10_add_46, b_X10_add_56, b_X10_add_67, b_X10_add_77, w32_id]
  · rw [up_cell (by omega), up_cell (by omega), up_cell (by omega), up_cell (by omega), up_cell (by omega)]
  · rw [up_eq]; omega
  · omega
  · rw [up_ne (by omega), up_ne (by omega), up_ne (by omega), up_ne (by omega), up_ne (by omega)]; exact h3
  · by_cases hi2 : i = S
    · subst hi2
      simp (disch := omega) only [up_ne, up_eq]
      omega
    · simp (disch := omega) only [up_ne]
      exact h5 i (by omega)
  · dsimp only
    rw [← h6 a' b' k' x']
    constructor
    · rintro ⟨i, hi, g1, g2, g3, g4⟩
      by_cases hi2 : i = S
      · subst hi2
        simp (disch := omega) only [up_ne, up_eq] at g1 g2 g3 g4
        exact Or.inr ⟨by omega, by omega, g3.symm, g4.symm⟩
      · simp (disch := omega) only [up_ne] at g1 g2 g3 g4
        exact Or.inl ⟨i, by omega, g1, g2, g3, g4⟩
    · rintro (⟨i, hi, g1, g2, g3, g4⟩ | ⟨g1, g2, g3, g4⟩)
      · refine ⟨i, by omega, ?_⟩
        simp (disch := omega) only [up_ne]
        exact ⟨g1, g2, g3, g4⟩
      · refine ⟨S, by omega, ?_⟩
        simp (disch := omega) only [up_ne, up_eq]
        exact ⟨by omega, by omega, g3.symm, g4.symm⟩
theorem c_addBoth {S P : Nat} {T : Nat → Nat → Int → Int → Prop} (h : LyI v S P T) (hS : S + 1 < 172) {a b : Nat} (ha : a < P) (hb : b < P) {k x : Int} (hk : 1 ≤ k ∧ k ≤ 99) : ∃ v', qE L xs (d + 3) nX10_addBothWays [(2, 29), (0, (a : Int)), (0, (b : Int)), (0, k), (0, x)] (qS v) = some (none, qS v') ∧ (∀ c, c < 29 ∨ 33 < c → v' c = v c) ∧ LyI v' (S + 2) P (fun a' b' k' x' => T a' b' k' x' ∨ (((a' = a ∧ b' = b) ∨ (a' = b ∧ b' = a)) ∧ k' = k ∧ x' = x)) := by
  obtain ⟨v1, e1, e2, e3⟩ := c_add (L := L) (xs := xs) (d := d) h (by omega) ha hb (x := x) hk
  obtain ⟨v2, e4, e5, e6⟩ := c_add (L := L) (xs := xs) (d := d) e3 (by omega) hb ha (x := x) hk
  refine ⟨v2, ?_, fun c hc => (e5 c hc).trans (e2 c hc), LyI_if (fun a' b' k' x' => ?_) e6⟩
  · rw [e_X10_addBothWays, b_X10_addBothWays_0, e1, qB_some, psh_none, b_X10_addBothWays_9, e4, qB_some, psh_none, b_X10_addBothWays_18]
  · constructor
    · rintro ((g | ⟨g1, g2, g3, g4⟩) | ⟨g1, g2, g3, g4⟩)
      · exact Or.inl g
      · exact Or.inr ⟨Or.inl ⟨g1, g2⟩, g3, g4⟩
      · exact Or.inr ⟨Or.inr ⟨g1, g2⟩, g3, g4⟩
    · rintro (g | ⟨⟨g1, g2⟩ | ⟨g1, g2⟩, g3, g4⟩)
      · exact Or.inl (Or.inl g)
      · exact Or.inl (Or.inr ⟨g1, g2, g3, g4⟩)
      · exact Or.inr ⟨g1, g2, g3, g4⟩
theorem c_round {S P : Nat} {T : Nat → Nat → Int → Int → Prop} (h : LyI v S P T) (hS : S + 1 < 172) {a : Nat} (ha : a + 1 < P) {k : Int} (hk : 0 ≤ k ∧ k ≤ 99) : ∃ v' S', qE L xs (d + 4) nX10_layRound [(2, 29), (0, (a : Int)), (0, k)] (qS v) = some (none, qS v') ∧ (∀ c, c < 29 ∨ 33 < c → v' c = v c) ∧ S' ≤ S + 2 ∧ LyI v' S' P (fun a' b' k' x' => T a' b' k' x' ∨ (0 < k ∧ ((a' = a ∧ b' = a + 1) ∨ (a' = a + 1 ∧ b' = a)) ∧ k' = k ∧ x' = -1)) := by
  have hP := h.1.2.2.2.1
  by_cases h0 : 0 < k
  · obtain ⟨v1, e1, e2, e3⟩ := c_addBoth (L := L) (xs := xs) (d := d) h hS (a := a) (b := a + 1) (by omega) ha (x := -1) (k := k) (by omega)
    refine ⟨v1, S + 2, ?_, e2, by omega, LyI_if (fun a' b' k' x' => ?_) e3⟩
    · rw [e_X10_layRound, b_X10_layRound_0, if_pos h0, b_X10_layRound_4, w32_id (by omega) (by omega), show (a : Int) + 1 = ((a + 1 : Nat) : Int) by omega, e1, qB_some, psh_none, b_X10_layRound_14]
    · constructor
      · rintro (g | ⟨g1, g2, g3⟩)
        · exact Or.inl g
        · exact Or.inr ⟨h0, g1, g2, g3⟩
      · rintro (g | ⟨-, g1, g2, g3⟩)
        · exact Or.inl g
        · exact Or.inr ⟨g1, g2, g3⟩
  · refine ⟨v, S, ?_, fun _ _ => rfl, by omega, LyI_if (fun a' b' k' x' => ?_) h⟩
    · rw [e_X10_layRound, b_X10_layRound_0, if_neg h0, b_X10_layRound_14]
    · constructor
      · exact Or.inl
      · rintro (g | ⟨g, -⟩)
        · exact g
        · exact absurd g h0
end LY
