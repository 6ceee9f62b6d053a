/-! THE REFERENCE's matrix of steps -/
section AK
variable {L : Nat} {xs : Nat → Int} {d : Nat} {v : Nat → Nat → Int}
/-- the steps that are there: a hole more, a hole shut, a lane shut -/
def SG (v : Nat → Nat → Int) (c : Nat → Nat → Nat → Int) (al sh sl : Int) (a b : Nat) (k : Int) : Prop := (sUp (v 11 0) c a b k ∨ sDn (v 11 0) c a b k) ∨ (∃ h : Nat, (h : Int) < v 1 1 ∧ (h : Int) ≠ sh ∧ sHo v h a b k) ∨ (0 ≤ al ∧ thr al.toNat a b ∧ k = 1) ∨ (∃ l : Nat, (l : Int) < v 1 2 ∧ (l : Int) ≠ sl ∧ sLa v l a b k) ∨ sRo v a b k
theorem SG_W {v w : Nat → Nat → Int} (hw : fW v w) : SG w = SG v := by
  funext c al sh sl a b k
  unfold SG sRo
  rw [sHo_W hw, sLa_W hw, fW_c hw (c := 11) (by omega), fW_c hw (c := 10) (by omega), fW_c hw (c := 1) (by omega)]
/-- what a spreading without a crossing goes by -/
theorem EC_SG {v' : Nat → Nat → Int} {S P : Nat} {c : Nat → Nat → Nat → Int} (hW : WW v) (h : LyI v' S P (TT v c)) {x : Int} (hx : -1 ≤ x) (a b : Nat) (k : Int) : EC v' S x a b k ↔ SG v c (-1) (if x < 12 then x else -1) (if x < 12 then -1 else x - 12) a b k := by
  obtain ⟨q1, q2, q3, q4, q5, q6⟩ := hW
  have hT := h.2 a b k
  constructor
  · rintro ⟨i, hi, h1, h2, h3, h4⟩
    have ht := (hT (v' 33 i)).mp ⟨i, hi, h1, h2, h3, rfl⟩
    unfold SG
    rcases ht with ⟨w1, w2⟩ | ⟨j, w1, w2, w3⟩ | ⟨j, w1, w2, w3⟩ | ⟨w1, w2⟩
    · exact Or.inl w1
    · refine Or.inr (Or.inl ⟨j, w1, ?_, w2⟩)
      by_cases g : x < 12
      · rw [if_pos g]; omega
      · rw [if_neg g]; omega
    · refine Or.inr (Or.inr (Or.inr (Or.inl ⟨j, w1, ?_, w2⟩)))
      by_cases g : x < 12
      · rw [if_pos g]; omega
      · rw [if_neg g]; omega
    · exact Or.inr (Or.inr (Or.inr (Or.inr w1)))
  · intro hs
    have hg : ∀ y, TT v c a b k y → (x = -1 ∨ y ≠ x) → EC v' S x a b k := fun y hy hyx => by
      obtain ⟨i, hi, h1, h2, h3, h4⟩ := (hT y).mpr hy
      exact ⟨i, hi, h1, h2, h3, by rw [h4]; exact hyx⟩
    unfold SG at hs
    rcases hs with w | ⟨j, w1, w2, w3⟩ | ⟨w, -⟩ | ⟨j, w1, w2, w3⟩ | w
    · exact hg (-1) (Or.inl ⟨w, rfl⟩) (by omega)
    · refine hg (j : Int) (Or.inr (Or.inl ⟨j, w1, w3, rfl⟩)) ?_
      by_cases g : x < 12
      · rw [if_pos g] at w2; omega
      · omega
    · exact absurd w (by omega)
    · refine hg (12 + (j : Int)) (Or.inr (Or.inr (Or.inl ⟨j, w1, w3, rfl⟩))) ?_
      by_cases g : x < 12
      · omega
      · rw [if_neg g] at w2; omega
    · exact hg (-1) (Or.inr (Or.inr (Or.inr ⟨w, rfl⟩))) (by omega)
/-- the matrix holds the least of each -/
def MH (v : Nat → Nat → Int) (T : Nat → Nat → Int → Prop) : Prop := (∀ a b, a < 60 → b < 60 → v 74 (60 * a + b) = 1000000 ∨ T a b (v 74 (60 * a + b))) ∧ (∀ a b k, T a b k → v 74 (60 * a + b) ≤ k) ∧ ∀ a b k, T a b k → a < 60 ∧ b < 60 ∧ 1 ≤ k ∧ k ≤ 99
theorem MH_cg {v w : Nat → Nat → Int} {T : Nat → Nat → Int → Prop} (hc : w 74 = v 74) (h : MH v T) : MH w T := by
  unfold MH
  rw [hc]
  exact h
theorem MH_if {T T' : Nat → Nat → Int → Prop} (hT : ∀ a b k, T a b k ↔ T' a b k) (h : MH v T) : MH v T' := by
  have e : T = T' := by
    funext a b k
    exact propext (hT a b k)
  rw [← e]
  exact h
theorem m_leads {T : Nat → Nat → Int → Prop} (h : MH v T) {a b : Nat} (ha : a < 60) (hb : b < 60) {k : Int} (hk : 1 ≤ k ∧ k ≤ 99) : ∃ v', qE L xs (d + 1) nX12_leads [(2, 63), (0, (a : Int)), (0, (b : Int)), (0, k)] (qS v) = some (none, qS v') ∧ (∀ c, c ≠ 74 → v' c = v c) ∧ MH v' (fun a' b' k' => T a' b' k' ∨ (a' = a ∧ b' = b ∧ k' = k)) := by
  obtain ⟨h1, h2, h3⟩ := h
  refine ⟨pm_up v 74 (60 * a + b) (if k < v 74 (60 * a + b) then k else v 74 (60 * a + b)), ?_, fun c hc => up_cell hc, fun a' b' ha' hb' => ?_, fun a' b' k' hk' => ?_, fun a' b' k' hk' => ?_⟩
  · have e : w32 (w32 (60 * (a : Int)) + (b : Int)) = ((60 * a + b : Nat) : Int) := by
      rw [w32_id (z := 60 * (a : Int)) (by omega) (by omega), w32_id (by omega) (by omega)]
      omega
    rw [e_X12_leads, b_X12_leads_0, e, if_pos (by omega), Int.toNat_natCast, b_X12_leads_22]
    by_cases hl : k < v 74 (60 * a + b)
    · rw [if_pos hl, if_pos hl, b_X12_leads_25, b_X12_leads_36, if_pos (by omega), Int.toNat_natCast, b_X12_leads_37]
    · rw [if_neg hl, if_neg hl, b_X12_leads_29, if_pos (by omega), Int.toNat_natCast, b_X12_leads_36, if_pos (by omega), Int.toNat_natCast, b_X12_leads_37]
  · by_cases hab : a' = a ∧ b' = b
    · obtain ⟨rfl, rfl⟩ := hab
      rw [up_eq]
      by_cases hl : k < v 74 (60 * a' + b')
      · rw [if_pos hl]
        exact Or.inr (Or.inr ⟨rfl, rfl, rfl⟩)
      · rw [if_neg hl]
        rcases h1 a' b' ha' hb' with w | w
        · exact Or.inl w
        · exact Or.inr (Or.inl w)
    · rw [up_ne (by omega)]
      rcases h1 a' b' ha' hb' with w | w
      · exact Or.inl w
      · exact Or.inr (Or.inl w)
  · by_cases hab : a' = a ∧ b' = b
    · obtain ⟨rfl, rfl⟩ := hab
      rw [up_eq]
      rcases hk' with w | ⟨-, -, w⟩
      · have := h2 a' b' k' w
        split <;> omega
      · split <;> omega
    · rcases hk' with w | ⟨w1, w2, -⟩
      · have := h3 a' b' k' w
        rw [up_ne (by omega)]
        exact h2 a' b' k' w
      · exact absurd ⟨w1, w2⟩ hab
  · rcases hk' with w | ⟨rfl, rfl, rfl⟩
    · exact h3 a' b' k' w
    · exact ⟨ha, hb, hk⟩
theorem m_through {T : Nat → Nat → Int → Prop} (h : MH v T) {y : Nat} (hy : y < 30) {k : Int} (hk : 1 ≤ k ∧ k ≤ 99) : ∃ v', qE L xs (d + 2) nX12_through [(2, 63), (0, (y : Int)), (0, k)] (qS v) = some (none, qS v') ∧ (∀ c, c ≠ 74 → v' c = v c) ∧ MH v' (fun a' b' k' => T a' b' k' ∨ (thr y a' b' ∧ k' = k)) := by
  obtain ⟨v1, e1, e2, e3⟩ := m_leads (L := L) (xs := xs) (d := d) h (a := 2 * y) (b := 2 * y + 1) (by omega) (by omega) hk
  obtain ⟨v2, e4, e5, e6⟩ := m_leads (L := L) (xs := xs) (d := d) e3 (a := 2 * y + 1) (b := 2 * y) (by omega) (by omega) hk
  refine ⟨v2, ?_, fun c hc => (e5 c hc).trans (e2 c hc), MH_if (fun a' b' k' => ?_) e6⟩
  · rw [e_X12_through, b_X12_through_0, w32_id (z := 2 * (y : Int)) (by omega) (by omega), w32_id (by omega) (by omega), show 2 * (y : Int) + 1 = ((2 * y + 1 : Nat) : Int) by omega, show 2 * (y : Int) = ((2 * y : Nat) : Int) by omega, e1, qB_some, psh_none, b_X12_through_13, w32_id (z := 2 * (y : Int)) (by omega) (by omega), w32_id (by omega) (by omega), show 2 * (y : Int) + 1 = ((2 * y + 1 : Nat) : Int) by omega, show 2 * (y : Int) = ((2 * y : Nat) : Int) by omega, e4, qB_some, psh_none, b_X12_through_26]
  · unfold thr
    constructor
    · rintro ((g | ⟨g1, g2, g3⟩) | ⟨g1, g2, g3⟩)
      · exact Or.inl g
      · exact Or.inr ⟨Or.inl ⟨g1, g2⟩, g3⟩
      · exact Or.inr ⟨Or.inr ⟨g1, g2⟩, g3⟩
    · rintro (g | ⟨⟨g1, g2⟩ | ⟨g1, g2⟩, g3⟩)
      · exact Or.inl (Or.inl g)
      · exact Or.inl (Or.inr ⟨g1, g2, g3⟩)
      · exact Or.inr ⟨g1, g2, g3⟩
theorem lp_afill : ∀ (n j : Nat) (v : Nat → Nat → Int), j + n = 3600 → (∀ i, i < j → v 74 i = 1000000) → ∃ v', qG L xs d CX12_asksSteps 2 [(2, 63), (0, (j : Int)), (9, 0), (9, 0)] [] (qS v) = qG L xs d CX12_asksSteps 23 [(2, 63), (0, 3600), (9, 0), (9, 0)] [] (qS v') ∧ (∀ c, c ≠ 74 → v' c = v c) ∧ ∀ i, i < 3600 → v' 74 i = 1000000
  | 0, j, v, hj, h => by
    have hjN : j = 3600 := by omega
    subst hjN
    refine ⟨v, ?_, fun _ _ => rfl, h⟩
    rw [b_X12_asksSteps_2, if_neg (by omega)]
    rfl
  | n + 1, j, v, hj, h => by
    obtain ⟨v', e1, e2, e3⟩ := lp_afill n (j + 1) (pm_up v 74 j 1000000) (by omega) (fun i hi => by
      by_cases hij : i = j
      · rw [hij, up_eq]
      · rw [up_ne (by omega)]
        exact h i (by omega))
    refine ⟨v', ?_, fun c hc => (e2 c hc).trans (up_cell hc), e3⟩
    refine Eq.trans ?_ e1
    rw [b_X12_asksSteps_2, if_pos (by omega), b_X12_asksSteps_9, if_pos (by omega), Int.toNat_natCast, b_X12_asksSteps_17, w32_id (by omega) (by omega)]
    rfl
end AK
