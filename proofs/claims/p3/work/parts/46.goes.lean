/-! THE REFERENCE's spreading: goesFrom() tells the minutes -/
section DG
variable {L : Nat} {xs : Nat → Int} {d : Nat} {v : Nat → Nat → Int}
abbrev gM (v : Nat → Nat → Int) (a b : Nat) : Int := v 74 (60 * a + b)
theorem lp_turns {N s : Nat} (hs : s < N) : ∀ (n t : Nat) (v : Nat → Nat → Int) (u4 u5 u6 : pm_V), t + n = N → MOK v N → Dj (EM v N) (gM v) N s (v 75) (v 76) t → ∃ v', qG L xs d CX12_goesFrom 44 [(2, 63), (0, (s : Int)), (0, (N : Int)), (0, (t : Int)), u4, u5, u6] [] (qS v) = some (none, qS v') ∧ (∀ c, c ≠ 75 → c ≠ 76 → v' c = v c) ∧ IsD (EM v N) N s 1000000 (v' 75)
  | 0, t, v, u4, u5, u6, ht, hM, hD => by
    refine ⟨v, ?_, fun _ _ _ => rfl, hD.1.1, fun a b k he ha => ?_, hD.1.2.2, fun p hp => (hD.1.2.1 p hp).2⟩
    · rw [b_X12_goesFrom_44, if_neg (by omega), b_X12_goesFrom_203]
    · obtain ⟨h1, h2, h3, h4⟩ := he
      have hz := cnt_zero (f := v 76) (n := N) (by have := hD.2.2.1; omega) a h1
      have h5 : v 76 a = 1 := by
        rcases hD.2.1 a h1 with h | h
        · exact absurd h hz
        · exact h
      have h6 := hD.2.2.2.1 a b h1 h2 h5 ha
      rw [show gM v a b = k from h3] at h6
      exact h6
  | n + 1, t, v, u4, u5, u6, ht, hM, hD => by
    have hN := hM.1
    have hc : 0 < cnt (v 76) N := by have := hD.2.2.1; omega
    obtain ⟨p0, hp0, hf0⟩ := cnt_pos hc
    have hr := nr_in (m := v 75) (f := v 76) N
    have hi := nr_is (m := v 75) (f := v 76) N
    have hn0 := (hi.2 p0 hp0 hf0).1
    obtain ⟨q, hq⟩ : ∃ q : Nat, nr (v 75) (v 76) N = (q : Int) := ⟨(nr (v 75) (v 76) N).toNat, by omega⟩
    have hqN : q < N := by omega
    have hfq : v 76 q = 0 := by
      have := hi.1 hn0
      rw [hq, Int.toNat_natCast] at this
      exact this
    have hmq : ∀ p, p < N → v 76 p = 0 → v 75 q ≤ v 75 p := fun p hp hf => by
      have := (hi.2 p hp hf).2
      rw [hq, Int.toNat_natCast] at this
      exact this
    have hg : ∀ a b, a < N → b < N → 1 ≤ gM v a b ∧ gM v a b ≤ 1000000 := fun a b ha hb => by
      have := hM.2 a b ha hb
      show 1 ≤ v 74 (60 * a + b) ∧ v 74 (60 * a + b) ≤ 1000000
      omega
    have T := dj_turn (fun a b ha hb hk => ⟨ha, hb, rfl, hk⟩) hg hs hD hqN hfq hmq
    have l1 := lp_near (L := L) (xs := xs) (d := d) (v := v) (s : Int) (t : Int) hN N 0 u6 (by omega)
    have hu : ∀ c, c ≠ 76 → pm_up v 76 q 1 c = v c := fun c hc => up_cell hc
    have a1 : qG L xs d CX12_goesFrom 44 [(2, 63), (0, (s : Int)), (0, (N : Int)), (0, (t : Int)), u4, u5, u6] [] (qS v) = qG L xs d CX12_goesFrom 119 [(2, 63), (0, (s : Int)), (0, (N : Int)), (0, (t : Int)), (0, (q : Int)), (0, 0), u6] [] (qS (pm_up v 76 q 1)) := by
      rw [b_X12_goesFrom_44, if_pos (by omega), b_X12_goesFrom_49]
      refine Eq.trans l1 ?_
      rw [hq, b_X12_goesFrom_108, if_pos (by omega), Int.toNat_natCast, b_X12_goesFrom_116]
    have e76 : (fun p => if p = q then (1 : Int) else v 76 p) = pm_up v 76 q 1 76 := (up_fn 76 q 1).symm
    have step : ∃ v1, ∃ z5 : Int, ∃ w6, qG L xs d CX12_goesFrom 119 [(2, 63), (0, (s : Int)), (0, (N : Int)), (0, (t : Int)), (0, (q : Int)), (0, 0), u6] [] (qS (pm_up v 76 q 1)) = qG L xs d CX12_goesFrom 197 [(2, 63), (0, (s : Int)), (0, (N : Int)), (0, (t : Int)), (0, (q : Int)), (0, z5), w6] [] (qS v1) ∧ (∀ c, c ≠ 75 → v1 c = pm_up v 76 q 1 c) ∧ v1 75 = (if v 75 q < 1000000 then rlx (v 75) (gM v q) q N else v 75) := by
      by_cases hl : v 75 q < 1000000
      · obtain ⟨v1, w6, e1, e2, e3⟩ := lp_relax (L := L) (xs := xs) (d := d) (s : Int) (t : Int) (m0 := v 75) (g := gM v q) hN hqN hD.1.2.1 (fun p hp => hg q p hqN hp) hl N 0 (pm_up v 76 q 1) u6 (by omega) (fun p hp => by rw [hu 74 (by decide)]) (by
          rw [hu 75 (by decide)]
          funext p
          exact (if_neg (by omega)).symm)
        rw [if_pos hl]
        exact ⟨v1, _, w6, e1, e2, e3⟩
      · rw [if_neg hl]
        refine ⟨pm_up v 76 q 1, 0, u6, ?_, fun _ _ => rfl, hu 75 (by decide)⟩
        rw [b_X12_goesFrom_119, if_pos (by omega), b_X12_goesFrom_125, if_pos (by omega), Int.toNat_natCast, hu 75 (by decide), b_X12_goesFrom_132, if_neg hl]
    obtain ⟨v1, z5, w6, e1, e2, e3⟩ := step
    have h74 : v1 74 = v 74 := (e2 74 (by decide)).trans (hu 74 (by decide))
    have hE : EM v1 N = EM v N := by unfold EM; rw [h74]
    have hG : gM v1 = gM v := by unfold gM; rw [h74]
    obtain ⟨v', e4, e5, e6⟩ := lp_turns hs n (t + 1) v1 (0, (q : Int)) (0, z5) w6 (by omega) (by unfold MOK; rw [h74]; exact hM) (by
      rw [hE, hG, e3, e2 76 (by decide), ← e76]
      exact T)
    rw [hE] at e6
    refine ⟨v', ?_, fun c h1 h2 => (e5 c h1 h2).trans ((e2 c h1).trans (hu c h2)), e6⟩
    rw [a1, e1, b_X12_goesFrom_197, w32_id (by omega) (by omega), show (t : Int) + 1 = ((t + 1 : Nat) : Int) by omega]
    exact e4
end DG
