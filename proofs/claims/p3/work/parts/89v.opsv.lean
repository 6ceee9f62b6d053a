/-! act keeps the relation -/
section OV3
variable {L : Nat} {xs : Nat → Int} {d : Nat} {v u w : Nat → Nat → Int}
/-- what they write down is the same -/
def trE (u w : Nat → Nat → Int) : Prop := w 63 42 = u 49 3 ∧ 0 ≤ u 49 3 ∧ ∀ i : Nat, (i : Int) < u 49 3 → i < 24 → w 85 i = u 51 i
theorem trE_n (h : trE u w) (B : Int) : trE (nC u B) (nM w B) := by
  obtain ⟨h1, h2, h3⟩ := h
  have e1 : nC u B 49 3 = u 49 3 + 1 := up_eq _ _ _ _
  have e2 : nM w B 63 42 = w 63 42 + 1 := up_eq _ _ _ _
  refine ⟨by rw [e1, e2, h1], by omega, fun i hi h24 => ?_⟩
  rw [e1] at hi
  unfold nC nM
  rw [up_ne (by omega), up_ne (by omega), h1]
  by_cases g : u 49 3 < 24
  · rw [if_pos g, if_pos g]
    by_cases q : i = (u 49 3).toNat
    · rw [q, up_eq, up_eq]
    · rw [up_ne (by omega), up_ne (by omega)]
      exact h3 i (by omega) h24
  · rw [if_neg g, if_neg g]
    exact h3 i (by omega) h24
theorem trE_ns : ∀ (l : List Int) (u w : Nat → Nat → Int), trE u w → trE (nCs u l) (nMs w l)
  | [], _, _, h => h
  | B :: l, u, w, h => trE_ns l (nC u B) (nM w B) (trE_n h B)
theorem opr_act (h : rlR v) (b t x : Int) : opR L xs v nX11_act nX12_act 0 [(0, b), (0, t), (0, x)] := by
  obtain ⟨e1, e2, e3, e4, e5, e6⟩ := h.2.2.2.2.2.2.1
  obtain ⟨u0, hu0⟩ : ∃ u0, u0 = pm_up v 49 3 0 := ⟨_, rfl⟩
  have z3 : u0 49 3 = 0 := by rw [hu0, up_eq]
  have z2 : u0 49 2 = v 49 2 := by rw [hu0, up_ne (by omega)]
  -- whatever they write down, the relation is kept
  have fin : ∀ (l : List Int) (w : Nat → Nat → Int), l.length ≤ 1000 → (∀ c j, ¬ (c = 63 ∧ (j = 42 ∨ j = 43 ∨ j = 44)) → w c j = nCs u0 l c j) → w 63 42 = 0 → rlR (nMs w l) := fun l w hl hw hz => by
    have tr0 : trE u0 w := ⟨by rw [hz, z3], by omega, fun i hi => by omega⟩
    obtain ⟨t1, t2, t3⟩ := trE_ns l u0 w tr0
    have hn := nCs_n l u0
    have k : ∀ c j, ¬ (c = 63 ∧ (j = 42 ∨ j = 43 ∨ j = 44)) → c ≠ 85 → ¬ (c = 49 ∧ j = 3) → c ≠ 51 → nMs w l c j = v c j := fun c j q1 q2 q3 q4 => by
      rw [nMs_ne (by omega) q2, hw c j q1, nCs_ne q3 q4, hu0, up_ne (by omega)]
    have a49 : nMs w l 49 3 = nCs u0 l 49 3 := by rw [nMs_ne (by omega) (by omega), hw 49 3 (by omega)]
    have a51 : ∀ i, nMs w l 51 i = nCs u0 l 51 i := fun i => by rw [nMs_ne (by omega) (by omega), hw 51 i (by omega)]
    have hB : rlB (nMs w l) := by
      refine ⟨?_, ?_, fun i hi => ?_, by rw [t1, a49], by rw [a49]; omega, fun i hi h24 => ?_⟩
      · rw [k 49 2 (by omega) (by omega) (by omega) (by omega)]
        exact e1
      · rw [k 49 2 (by omega) (by omega) (by omega) (by omega), k 63 39 (by omega) (by omega) (by omega) (by omega)]
        exact e2
      · rw [k 49 2 (by omega) (by omega) (by omega) (by omega)] at hi
        have : nMs w l 84 i = v 84 i := k 84 i (by omega) (by omega) (by omega) (by omega)
        rw [this, k 50 i (by omega) (by omega) (by omega) (by omega)]
        exact e3 i hi
      · rw [a49] at hi
        rw [a51]
        exact t3 i hi h24
    refine rlR_or h (Or.inr (fun c j q => k c j (by unfold dsW at q; omega) (by unfold dsW at q; omega) (by unfold dsW at q; omega) (by unfold dsW at q; omega))) (Or.inr (fun c j q => k c j (by unfold dsC at q; omega) (by unfold dsC at q; omega) (by unfold dsC at q; omega) (by unfold dsC at q; omega))) (Or.inr (fun c j q => k c j (by unfold dsT at q; omega) (by unfold dsT at q; omega) (by unfold dsT at q; omega) (by unfold dsT at q; omega))) (Or.inr (fun c j q => k c j (by unfold dsL at q; omega) (by unfold dsL at q; omega) (by unfold dsL at q; omega) (by unfold dsL at q; omega))) (Or.inr (fun c j q => k c j (by unfold dsD at q; omega) (by unfold dsD at q; omega) (by unfold dsD at q; omega) (by unfold dsD at q; omega))) (Or.inr (fun c j q => k c j (by unfold dsG at q; omega) (by unfold dsG at q; omega) (by unfold dsG at q; omega) (by unfold dsG at q; omega))) (Or.inl hB) (Or.inr (fun c j q => k c j (by unfold dsS at q; omega) (by unfold dsS at q; omega) (by unfold dsS at q; omega) (by unfold dsS at q; omega))) (Or.inr (fun c j q => k c j (by unfold dsN at q; omega) (by unfold dsN at q; omega) (by unfold dsN at q; omega) (by unfold dsN at q; omega)))
  have mb : ∀ w : Nat → Nat → Int, w 63 39 = v 49 2 → qE L xs 1000 nX12_act [(2, 63), (0, b), (0, t), (0, x)] (qS w) = if 0 ≤ b ∧ b < v 49 2 then qG L xs 999 CX12_act 15 [(2, 63), (0, b), (0, t), (0, x)] [] (qS (pm_up w 63 42 0)) else some (some (0, 0), qS (pm_up w 63 42 0)) := fun w hw => by
    rw [e_X12_act, b_X12_act_0, b_X12_act_5, mb_isBody _ (by rw [up_ne (by omega)]; omega) (by rw [up_ne (by omega)]; omega), up_ne (by omega), hw, qB_some, psh_some, b_X12_act_10, zb_0, b_X12_act_13]
  by_cases g : 0 ≤ b ∧ b < v 49 2
  · obtain ⟨bn, rfl⟩ : ∃ bn : Nat, b = (bn : Int) := ⟨b.toNat, by omega⟩
    obtain ⟨m1, m2⟩ := e3 bn g.2
    have z50 : u0 50 bn = v 50 bn := by rw [hu0, up_ne (by omega)]
    by_cases g2 : 0 ≤ t ∧ t < 4
    · obtain ⟨O, hO⟩ : ∃ O : Nat, v 50 bn = (O : Int) := ⟨(v 50 bn).toNat, by omega⟩
      obtain ⟨T, rfl⟩ : ∃ T : Nat, t = (T : Int) := ⟨t.toNat, by omega⟩
      have hE := acE_10 O (by omega) O (by omega) T (by omega)
      have hL := acL_10 O (by omega) O (by omega) T (by omega)
      have hb : bOK u0 (bn : Int) (O : Int) := ⟨by rw [z2]; exact g, by rw [z2]; omega, by rw [Int.toNat_natCast, z50, hO]⟩
      have r1 := cr_run (L := L) (xs := xs) (d := 972) (b := (bn : Int)) (o := (O : Int)) (by omega) 10 (O : Int) (T : Int) x 0 u0 (by omega) (by omega) (by omega) hb hE (by omega)
      obtain ⟨l, hl⟩ : ∃ l, l = acL (O : Int) 10 (O : Int) (T : Int) := ⟨_, rfl⟩
      rw [← hl] at r1 hL
      obtain ⟨w1, hw1⟩ : ∃ w1, w1 = pm_up (pm_up (pm_up (nCs u0 l) 63 42 0) 63 43 O) 63 44 bn := ⟨_, rfl⟩
      have q42 : w1 63 42 = 0 := by rw [hw1]; simp (disch := omega) only [up_ne, up_eq]
      have hmk : mOK w1 (bn : Int) (O : Int) := ⟨by rw [hw1]; simp (disch := omega) only [up_ne, up_eq], by rw [hw1]; simp (disch := omega) only [up_eq]⟩
      have r2 := mr_run (L := L) (xs := xs) (d := 987) (b := (bn : Int)) (o := (O : Int)) (by omega) 10 (O : Int) (T : Int) x w1 (by omega) (by omega) hmk hE (by rw [← hl]; omega)
      rw [← hl] at r2
      have k63 : nCs u0 l 63 39 = v 49 2 := by rw [nCs_ne (by omega) (by omega), hu0, up_ne (by omega)]; exact e2
      have k84 : pm_up (nCs u0 l) 63 42 0 84 bn = (O : Int) := by
        rw [up_ne (by omega), nCs_ne (by omega) (by omega), hu0, up_ne (by omega), m1, hO]
      refine ⟨acV (O : Int) bn 10 O T x, nCs u0 l, nMs w1 l, ?_, ?_, fin l w1 hL (fun c j q => by rw [hw1, up_ne (by omega), up_ne (by omega), up_ne (by omega)]) q42⟩
      · have ek : qE L xs 998 nX0_kindOf [(2, 49), (0, (bn : Int))] (qS u0) = some (some (0, (O : Int)), qS u0) := cr_wkind (d := 996) hb
        rw [e_X11_act, b_X11_act_0, e_X0_perform, b_X0_perform_0, ← hu0, b_X0_perform_5, cb_has _ (by rw [z2]; omega), qB_some, psh_some, b_X0_perform_10, zb_0, if_pos (by rw [z2]; exact g), b_X0_perform_13, if_neg (by omega), b_X0_perform_17, if_neg (by omega), b_X0_perform_24, ek, qB_some, psh_some, b_X0_perform_31, r1, qB_some, psh_some, b_X0_perform_37, qB_some, psh_some, b_X11_act_10]
      · have e30 : qG L xs 999 CX12_act 15 [(2, 63), (0, (bn : Int)), (0, (T : Int)), (0, x)] [] (qS (pm_up (nCs u0 l) 63 42 0)) = qG L xs 999 CX12_act 30 [(2, 63), (0, (bn : Int)), (0, (T : Int)), (0, x)] [] (qS w1) := by
          rw [b_X12_act_15, if_pos (by omega), Int.toNat_natCast, k84, b_X12_act_22, b_X12_act_25, hw1]
        rw [mb _ k63, if_pos g, e30]
        have h4 : T = 0 ∨ T = 1 ∨ T = 2 ∨ T = 3 := by omega
        rcases h4 with rfl | rfl | rfl | rfl
        · rw [b_X12_act_30_v0 (x2 := ((0 : Nat) : Int)) (h := rfl), b_X12_act_60, hmk.1, show qE L xs 999 nX12_standsAs [(2, 63), (0, (O : Int)), (0, x)] (qS w1) = _ from r2, qB_some, psh_some, b_X12_act_69]
        · rw [b_X12_act_30_v1 (x2 := ((1 : Nat) : Int)) (h := rfl), b_X12_act_70, hmk.1, show qE L xs 999 nX12_bearsAs [(2, 63), (0, (O : Int)), (0, x)] (qS w1) = _ from r2, qB_some, psh_some, b_X12_act_79]
        · rw [b_X12_act_30_v2 (x2 := ((2 : Nat) : Int)) (h := rfl), b_X12_act_80, hmk.1, show qE L xs 999 nX12_knocksAs [(2, 63), (0, (O : Int)), (0, x)] (qS w1) = _ from r2, qB_some, psh_some, b_X12_act_89]
        · rw [b_X12_act_30_v3 (x2 := ((3 : Nat) : Int)) (h := rfl), b_X12_act_90, hmk.1, show qE L xs 999 nX12_tellsAs [(2, 63), (0, (O : Int)), (0, x)] (qS w1) = _ from r2, qB_some, psh_some, b_X12_act_99]
    · obtain ⟨w1, hw1⟩ : ∃ w1, w1 = pm_up (pm_up (pm_up u0 63 42 0) 63 43 (v 84 bn)) 63 44 bn := ⟨_, rfl⟩
      have q42 : w1 63 42 = 0 := by rw [hw1]; simp (disch := omega) only [up_ne, up_eq]
      refine ⟨0, u0, w1, ?_, ?_, fin [] w1 (by show 0 ≤ 1000; omega) (fun c j q => by rw [hw1, up_ne (by omega), up_ne (by omega), up_ne (by omega)]; rfl) q42⟩
      · rw [e_X11_act, b_X11_act_0, e_X0_perform, b_X0_perform_0, ← hu0, b_X0_perform_5, cb_has _ (by rw [z2]; omega), qB_some, psh_some, b_X0_perform_10, zb_0, if_pos (by rw [z2]; exact g), b_X0_perform_13]
        by_cases g3 : t < 0
        · rw [if_pos g3, b_X0_perform_22, qB_some, psh_some, b_X11_act_10]
        · rw [if_neg g3, b_X0_perform_17, if_pos (by omega), b_X0_perform_22, qB_some, psh_some, b_X11_act_10]
      · have k84 : pm_up u0 63 42 0 84 bn = v 84 bn := by rw [up_ne (by omega), hu0, up_ne (by omega)]
        rw [mb u0 (by rw [hu0, up_ne (by omega)]; exact e2), if_pos g, b_X12_act_15, if_pos (by omega), Int.toNat_natCast, k84, b_X12_act_22, b_X12_act_25, ← hw1, b_X12_act_30_o (h := by omega), b_X12_act_100]
  · obtain ⟨w1, hw1⟩ : ∃ w1, w1 = pm_up u0 63 42 0 := ⟨_, rfl⟩
    have q42 : w1 63 42 = 0 := by rw [hw1]; simp (disch := omega) only [up_ne, up_eq]
    refine ⟨0, u0, w1, ?_, ?_, fin [] w1 (by show 0 ≤ 1000; omega) (fun c j q => by rw [hw1, up_ne (by omega)]; rfl) q42⟩
    · rw [e_X11_act, b_X11_act_0, e_X0_perform, b_X0_perform_0, ← hu0, b_X0_perform_5, cb_has _ (by rw [z2]; omega), qB_some, psh_some, b_X0_perform_10, zb_0, if_neg (by rw [z2]; exact g), b_X0_perform_22, qB_some, psh_some, b_X11_act_10]
    · rw [mb u0 (by rw [hu0, up_ne (by omega)]; exact e2), if_neg g, hw1]
end OV3
