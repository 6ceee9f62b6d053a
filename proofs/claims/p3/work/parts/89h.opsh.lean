/-! becomes(), and both side by side -/
section OH3
variable {L : Nat} {xs : Nat → Int} {d : Nat} {u v w : Nat → Nat → Int} {k n : Nat}
/-- a step of the loop that forgets the first -/
def fgS (v : Nat → Nat → Int) (i : Nat) : Nat → Nat → Int := pm_up (pm_up (pm_up v 65 i (v 65 (i + 1))) 66 i (v 66 (i + 1))) 67 i (v 67 (i + 1))
/-- i and what is behind it are moved one nearer, so long as i is below 40 -/
def fgR (v : Nat → Nat → Int) (i : Nat) : Nat → Nat → Int := fun c j => if (65 ≤ c ∧ c ≤ 67) ∧ i ≤ j ∧ j < 39 then v c (j + 1) else v c j
theorem fgR_step {i : Nat} (h : i < 39) : fgR (fgS v i) (i + 1) = fgR v i := by
  funext c j
  unfold fgR
  by_cases g : (65 ≤ c ∧ c ≤ 67) ∧ i + 1 ≤ j ∧ j < 39
  · rw [if_pos g, if_pos (by omega)]
    unfold fgS
    rw [up_ne (by omega), up_ne (by omega), up_ne (by omega)]
  · rw [if_neg g]
    by_cases g2 : (65 ≤ c ∧ c ≤ 67) ∧ i ≤ j ∧ j < 39
    · rw [if_pos g2]
      have : j = i := by omega
      subst this
      have : c = 65 ∨ c = 66 ∨ c = 67 := by omega
      unfold fgS
      rcases this with rfl | rfl | rfl
      · rw [up_ne (by omega), up_ne (by omega), up_eq]
      · rw [up_ne (by omega), up_eq]
      · rw [up_eq]
    · rw [if_neg g2]
      unfold fgS
      rw [up_ne (by omega), up_ne (by omega), up_ne (by omega)]
theorem lpr_forget (x1 x2 x3 : Int) : ∀ (m i : Nat) (v : Nat → Nat → Int), i + m = 39 → qG L xs d CX12_becomes 26 [(2, 63), (0, x1), (0, x2), (0, x3), (0, (i : Int) + 1)] [] (qS v) = qG L xs d CX12_becomes 87 [(2, 63), (0, x1), (0, x2), (0, x3), (0, 40)] [] (qS (fgR v i))
  | 0, i, v, h => by
    obtain rfl : i = 39 := by omega
    have : fgR v 39 = v := by
      funext c j
      exact if_neg (by omega)
    rw [this, b_X12_becomes_26, if_neg (by omega)]
    rfl
  | m + 1, i, v, h => by
    have ih := lpr_forget x1 x2 x3 m (i + 1) (fgS v i) (by omega)
    rw [fgR_step (by omega)] at ih
    rw [← ih, b_X12_becomes_26, if_pos (by omega), b_X12_becomes_33, if_pos (by omega), w32_id (by omega) (by omega), show ((i : Int) + 1 - 1) = (i : Int) by omega, show ((i : Int) + 1).toNat = i + 1 by omega, b_X12_becomes_48, if_pos (by omega), Int.toNat_natCast, b_X12_becomes_49, if_pos (by omega), w32_id (by omega) (by omega), show ((i : Int) + 1 - 1) = (i : Int) by omega, show ((i : Int) + 1).toNat = i + 1 by omega, b_X12_becomes_64, if_pos (by omega), Int.toNat_natCast, b_X12_becomes_65, if_pos (by omega), w32_id (by omega) (by omega), show ((i : Int) + 1 - 1) = (i : Int) by omega, show ((i : Int) + 1).toNat = i + 1 by omega, b_X12_becomes_80, if_pos (by omega), Int.toNat_natCast, b_X12_becomes_81, w32_id (by omega) (by omega), up_ne (by omega), up_ne (by omega), up_ne (by omega)]
    rfl
def fgM (v : Nat → Nat → Int) : Nat → Nat → Int := pm_up (fgR v 0) 63 5 39
theorem fgM_in {c i : Nat} (hc : 65 ≤ c ∧ c ≤ 67) (hi : i < 39) : fgM v c i = v c (i + 1) := by
  unfold fgM
  rw [up_ne (by omega)]
  exact if_pos (by omega)
theorem fgM_ne {c i : Nat} (hc : ¬ (65 ≤ c ∧ c ≤ 67)) (h : ¬ (c = 63 ∧ i = 5)) : fgM v c i = v c i := by
  unfold fgM
  rw [up_ne (by omega)]
  exact if_neg (by omega)
theorem fgM_5 : fgM v 63 5 = 39 := up_eq _ _ _ _
def ntM (v : Nat → Nat → Int) (D : Nat) (a x y : Int) : Nat → Nat → Int := pm_up (pm_up (pm_up (pm_up (pm_up v 65 D a) 66 D x) 67 D y) 63 5 ((D : Int) + 1)) 63 4 ((D : Int) + 1)
def ntA (v : Nat → Nat → Int) : Nat → Nat → Int := if v 63 5 < 40 then v else fgM v
theorem ntA_5 (h : 0 ≤ v 63 5 ∧ v 63 5 ≤ 40) : ∃ D : Nat, D < 40 ∧ ntA v 63 5 = (D : Int) ∧ ((v 63 5 = (D : Int) ∧ ntA v = v) ∨ (D = 39 ∧ v 63 5 = 40 ∧ ntA v = fgM v)) := by
  unfold ntA
  by_cases g : v 63 5 < 40
  · rw [if_pos g]
    exact ⟨(v 63 5).toNat, by omega, by omega, Or.inl ⟨by omega, rfl⟩⟩
  · rw [if_neg g]
    exact ⟨39, by omega, fgM_5, Or.inr ⟨rfl, by omega, rfl⟩⟩
theorem ntM_ne {c j D : Nat} {a x y : Int} (h2 : ¬ (c = 63 ∧ (j = 4 ∨ j = 5))) (h3 : ¬ (65 ≤ c ∧ c ≤ 67)) : ntM (ntA v) D a x y c j = v c j := by
  unfold ntM
  rw [up_ne (by omega), up_ne (by omega), up_ne (by omega), up_ne (by omega), up_ne (by omega)]
  unfold ntA
  by_cases q : v 63 5 < 40
  · rw [if_pos q]
  · rw [if_neg q, fgM_ne (by omega) (by omega)]
def chM (v : Nat → Nat → Int) (a : Nat) (z : Int) : Nat → Nat → Int := if v 64 a = z then v else pm_up (ntM (ntA v) (ntA v 63 5).toNat a (v 64 a) z) 64 a z
theorem chM_ne {a : Nat} (z : Int) {c j : Nat} (h1 : ¬ (c = 64 ∧ j = a)) (h2 : ¬ (c = 63 ∧ (j = 4 ∨ j = 5))) (h3 : ¬ (65 ≤ c ∧ c ≤ 67)) : chM v a z c j = v c j := by
  unfold chM
  by_cases g : v 64 a = z
  · rw [if_pos g]
  · rw [if_neg g, up_ne (by omega), ntM_ne (by omega) (by omega)]
theorem mr_bec_end {D a : Nat} (hD : v 63 5 = (D : Int)) (h40 : D < 40) (ha : a < 144) (x3 x4 : pm_V) (z old : Int) (h3 : x3 = (0, old)) : qG L xs d CX12_becomes 97 [(2, 63), (0, (a : Int)), (0, z), x3, x4] [] (qS v) = some (some (0, old), qS (pm_up (ntM v D a old z) 64 a z)) := by
  subst h3
  rw [b_X12_becomes_97, hD, if_pos (by omega), Int.toNat_natCast, b_X12_becomes_107, up_ne (by omega), hD, if_pos (by omega), Int.toNat_natCast, b_X12_becomes_117, up_ne (by omega), up_ne (by omega), hD, if_pos (by omega), Int.toNat_natCast, b_X12_becomes_127, up_ne (by omega), up_ne (by omega), up_ne (by omega), hD, w32_id (by omega) (by omega), b_X12_becomes_137, up_eq, b_X12_becomes_145, if_pos (by omega), Int.toNat_natCast, b_X12_becomes_152]
  rfl
theorem mr_becomes {a : Nat} (h : 0 ≤ v 63 5 ∧ v 63 5 ≤ 40) (ha : a < 144) (z : Int) : qE L xs (d + 1) nX12_becomes [(2, 63), (0, (a : Int)), (0, z)] (qS v) = some (some (0, v 64 a), qS (chM v a z)) := by
  rw [e_X12_becomes, b_X12_becomes_0, if_pos (by omega), Int.toNat_natCast, b_X12_becomes_6]
  unfold chM
  by_cases g : v 64 a = z
  · rw [if_pos g, if_pos g, b_X12_becomes_12]
  · rw [if_neg g, if_neg g, b_X12_becomes_14]
    obtain ⟨D, h1, h2, h3⟩ := ntA_5 h
    rw [h2, Int.toNat_natCast]
    rcases h3 with ⟨q1, q2⟩ | ⟨q1, q2, q3⟩
    · rw [q2, if_neg (by omega), mr_bec_end q1 h1 ha _ _ z _ rfl]
    · have lf := lpr_forget (L := L) (xs := xs) (d := d) (a : Int) z (v 64 a) 39 0 v (by omega)
      rw [q3, if_pos q2, b_X12_becomes_23]
      refine Eq.trans lf ?_
      have h5 : fgR v 0 63 5 = 40 := (if_neg (by omega)).trans q2
      rw [b_X12_becomes_87, h5, w32_id (by omega) (by omega), show pm_up (fgR v 0) 63 5 (40 - 1) = fgM v from rfl, mr_bec_end (D := D) (by rw [fgM_5]; omega) h1 ha _ _ z _ rfl]
/-- one more change is written down, on both sides, after s are forgotten -/
theorem rC_note {s D : Nat} {old z : Int} (h : rlC v) (hs : (s = 0 ∧ v 18 4 = (D : Int)) ∨ (s = 1 ∧ v 18 4 = (D : Int) + 1)) (hD : D < 40) (h11 : w 1 1 = v 1 1) (h12 : w 1 2 = v 1 2) (hk : k < 12) (hn : n < cn k) (hl : (n : Int) < hmN v k) (ho : lo k ≤ old ∧ old ≤ hi k) (hz : lo k ≤ z ∧ z ≤ hi k) (e4 : w 18 4 = (D : Int) + 1) (e5 : w 18 5 = (D : Int) + 1) (f5 : w 63 5 = (D : Int) + 1) (f4 : w 63 4 = (D : Int) + 1) (hi : ∀ c i, ((19 ≤ c ∧ c ≤ 22) ∨ (65 ≤ c ∧ c ≤ 67)) → i < D → w c i = v c (i + s)) (d1 : w 19 D = (k : Int)) (d2 : w 20 D = (n : Int)) (d3 : w 21 D = old) (d4 : w 22 D = z) (d5 : w 65 D = (atM k n : Int)) (d6 : w 66 D = old) (d7 : w 67 D = z) : rlC w := by
  have hh : hmN w = hmN v := by
    funext k
    unfold hmN
    rw [h11, h12]
  obtain ⟨p1, p2, p3⟩ := h
  refine ⟨by omega, ⟨by omega, by omega⟩, fun i hi' => ?_⟩
  rw [hh]
  by_cases g : i = D
  · subst g
    exact ⟨k, n, hk, hn, hl, d1, d2, d5, by rw [d6, d3], by rw [d7, d4], by rw [d3]; exact ho, by rw [d4]; exact hz⟩
  · rw [hi 19 i (by omega) (by omega), hi 20 i (by omega) (by omega), hi 21 i (by omega) (by omega), hi 22 i (by omega) (by omega), hi 65 i (by omega) (by omega), hi 66 i (by omega) (by omega), hi 67 i (by omega) (by omega)]
    exact p3 (i + s) (by omega)
/-- BOTH change alike -/
theorem rR_ch (h : rlR (mix u v)) (hk : k < 12) (hn : n < cn k) (hl : (n : Int) < hmN u k) (z : Int) (hz : lo k ≤ z ∧ z ≤ hi k) : rlR (mix (chC u k n z) (chM v (atM k n) z)) := by
  have hW := h.1
  have hC := h.2.1
  have h30 := cn_30 hk hn
  have hM := atM_lt hk hn
  have hmm : hmN (mix u v) = hmN u := by
    funext k
    unfold hmN
    rw [mx_u (by omega), mx_u (by omega)]
  have ev : v 64 (atM k n) = u (3 + k) n := by
    have := hW.2.2.2.2.1 k n hk hn (by rw [hmm]; exact hl)
    rw [mx_v (by omega), mx_u (by omega)] at this
    exact this
  have ob : lo k ≤ u (3 + k) n ∧ u (3 + k) n ≤ hi k := by
    have := hW.2.2.1 k n hk hn
    rw [mx_u (by omega)] at this
    exact this
  by_cases g : u (3 + k) n = z
  · unfold chC chM
    rw [if_pos g, if_pos (ev.trans g)]
    exact h
  · obtain ⟨c1, c2, c3⟩ := hC
    have c45 : 0 ≤ u 18 4 ∧ u 18 4 ≤ 40 := by
      rw [mx_u (by omega), mx_u (by omega)] at c1
      omega
    have m45 : v 63 5 = u 18 4 := by
      have := c2.1
      rw [mx_v (by omega), mx_u (by omega)] at this
      exact this
    obtain ⟨D, h1, h2, h3⟩ := ntB_4 c45
    obtain ⟨D', h1', h2', h3'⟩ := ntA_5 (v := v) (by omega)
    have eD : D' = D := by omega
    subst eD
    have eC : chC u k n z = pm_up (ntC (ntB u) D' k n (u (3 + k) n) z) (3 + k) n z := by
      unfold chC
      rw [if_neg g, h2, Int.toNat_natCast]
    have eM : chM v (atM k n) z = pm_up (ntM (ntA v) D' (atM k n) (u (3 + k) n) z) 64 (atM k n) z := by
      unfold chM
      rw [ev, if_neg g, h2', Int.toNat_natCast]
    have hu : ∀ c j, ¬ (c = 3 + k ∧ j = n) → ¬ (c = 18 ∧ (j = 4 ∨ j = 5)) → ¬ (19 ≤ c ∧ c ≤ 22) → ¬ (c = 64 ∧ j = atM k n) → ¬ (c = 63 ∧ (j = 4 ∨ j = 5)) → ¬ (65 ≤ c ∧ c ≤ 67) → mix (chC u k n z) (chM v (atM k n) z) c j = mix u v c j := fun c j q1 q2 q3 q4 q5 q6 => by
      unfold mix
      rw [chC_ne z q1 q2 q3, chM_ne z q4 q5 q6]
    refine rlR_but h (rW_set (k := k) (n := n) (z := z) hW hk hn (by rw [hmm]; exact hl) hz ?_ ?_ (fun c j q z1 z2 => hu c j z1 (by unfold dsW at q; omega) (by unfold dsW at q; omega) z2 (by unfold dsW at q; omega) (by unfold dsW at q; omega))) ?_ (fun c j q => hu c j (by unfold dsO dsT dsL dsD dsG dsB dsS dsN at q; omega) (by unfold dsO dsT dsL dsD dsG dsB dsS dsN at q; omega) (by unfold dsO dsT dsL dsD dsG dsB dsS dsN at q; omega) (by unfold dsO dsT dsL dsD dsG dsB dsS dsN at q; omega) (by unfold dsO dsT dsL dsD dsG dsB dsS dsN at q; omega) (by unfold dsO dsT dsL dsD dsG dsB dsS dsN at q; omega))
    · rw [mx_u (by omega), eC, up_eq]
    · rw [mx_v (by omega), eM, up_eq]
    · obtain ⟨s, hs, iC, iM⟩ : ∃ s : Nat, ((s = 0 ∧ u 18 4 = (D' : Int)) ∨ (s = 1 ∧ u 18 4 = (D' : Int) + 1)) ∧ (∀ c i, (19 ≤ c ∧ c ≤ 22) → i < D' → ntB u c i = u c (i + s)) ∧ ∀ c i, (65 ≤ c ∧ c ≤ 67) → i < D' → ntA v c i = v c (i + s) := by
        rcases h3 with ⟨q1, q2⟩ | ⟨q1, q2, q3⟩
        · refine ⟨0, Or.inl ⟨rfl, q1⟩, fun c i _ _ => by rw [q2]; rfl, fun c i _ _ => ?_⟩
          rcases h3' with ⟨r1, r2⟩ | ⟨r1, r2, r3⟩
          · rw [r2]; rfl
          · omega
        · refine ⟨1, Or.inr ⟨rfl, by omega⟩, fun c i hc hi => by rw [q3, fgC_in hc (by omega)], fun c i hc hi => ?_⟩
          rcases h3' with ⟨r1, r2⟩ | ⟨r1, r2, r3⟩
          · omega
          · rw [r3, fgM_in hc (by omega)]
      have eL : ∀ c j, c < 63 → mix (chC u k n z) (chM v (atM k n) z) c j = chC u k n z c j := fun c j q => mx_u q
      have eR : ∀ c j, 63 ≤ c → mix (chC u k n z) (chM v (atM k n) z) c j = chM v (atM k n) z c j := fun c j q => mx_v q
      refine rC_note (v := mix u v) (s := s) (D := D') (k := k) (n := n) (old := u (3 + k) n) (z := z) h.2.1 (by rw [mx_u (by omega)]; exact hs) h1 (hu 1 1 (by omega) (by omega) (by omega) (by omega) (by omega) (by omega)) (hu 1 2 (by omega) (by omega) (by omega) (by omega) (by omega) (by omega)) hk hn (by rw [hmm]; exact hl) ob hz ?_ ?_ ?_ ?_ (fun c i hc hi => ?_) ?_ ?_ ?_ ?_ ?_ ?_ ?_
      · rw [eL _ _ (by omega), eC, up_ne (by omega)]; unfold ntC; rw [up_ne (by omega), up_eq]
      · rw [eL _ _ (by omega), eC, up_ne (by omega)]; unfold ntC; rw [up_eq]
      · rw [eR _ _ (by omega), eM, up_ne (by omega)]; unfold ntM; rw [up_ne (by omega), up_eq]
      · rw [eR _ _ (by omega), eM, up_ne (by omega)]; unfold ntM; rw [up_eq]
      · rcases hc with hc | hc
        · rw [eL _ _ (by omega), eC, up_ne (by omega), mx_u (by omega), ← iC c i hc hi]
          unfold ntC
          rw [up_ne (by omega), up_ne (by omega), up_ne (by omega), up_ne (by omega), up_ne (by omega), up_ne (by omega)]
        · rw [eR _ _ (by omega), eM, up_ne (by omega), mx_v (by omega), ← iM c i hc hi]
          unfold ntM
          rw [up_ne (by omega), up_ne (by omega), up_ne (by omega), up_ne (by omega), up_ne (by omega)]
      · rw [eL _ _ (by omega), eC, up_ne (by omega)]; unfold ntC; rw [up_ne (by omega), up_ne (by omega), up_ne (by omega), up_ne (by omega), up_ne (by omega), up_eq]
      · rw [eL _ _ (by omega), eC, up_ne (by omega)]; unfold ntC; rw [up_ne (by omega), up_ne (by omega), up_ne (by omega), up_ne (by omega), up_eq]
      · rw [eL _ _ (by omega), eC, up_ne (by omega)]; unfold ntC; rw [up_ne (by omega), up_ne (by omega), up_ne (by omega), up_eq]
      · rw [eL _ _ (by omega), eC, up_ne (by omega)]; unfold ntC; rw [up_ne (by omega), up_ne (by omega), up_eq]
      · rw [eR _ _ (by omega), eM, up_ne (by omega)]; unfold ntM; rw [up_ne (by omega), up_ne (by omega), up_ne (by omega), up_ne (by omega), up_eq]
      · rw [eR _ _ (by omega), eM, up_ne (by omega)]; unfold ntM; rw [up_ne (by omega), up_ne (by omega), up_ne (by omega), up_eq]
      · rw [eR _ _ (by omega), eM, up_ne (by omega)]; unfold ntM; rw [up_ne (by omega), up_ne (by omega), up_eq]
end OH3
