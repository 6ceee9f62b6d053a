/-! WIDEST, GO: both answer, and alike -/
section WI
variable {L : Nat} {xs : Nat → Int} {d : Nat} {v : Nat → Nat → Int} {c : Nat → Nat → Nat → Int} {P : Nat}
theorem lp_all {S : Nat} {T : Nat → Nat → Int → Prop} : ∀ (n j : Nat) (v : Nat → Nat → Int), j + n = P → WOK v S P → EC v S (-1) = T → (∀ s p, s < j → p < P → Lst T s p 9999 (v 35 (60 * s + p))) → ∃ v', qG L xs (d + 3) CX10_spreadFromAll 2 [(2, 29), (0, (j : Int))] [] (qS v) = some (none, qS v') ∧ (∀ c, c ≠ 34 → c ≠ 35 → v' c = v c) ∧ ∀ s p, s < P → p < P → Lst T s p 9999 (v' 35 (60 * s + p))
  | 0, j, v, hj, h, hE, hA => by
    have h9 := h.2.2.1
    refine ⟨v, ?_, fun _ _ _ => rfl, fun s p hs hp => hA s p (by omega) hp⟩
    rw [b_X10_spreadFromAll_2, if_neg (by omega), b_X10_spreadFromAll_40]
  | n + 1, j, v, hj, h, hE, hA => by
    have h9 := h.2.2.1
    have hP2 := h.2.2.2.1
    obtain ⟨v1, e1, e2, e3⟩ := c_from (L := L) (xs := xs) (d := d) h hE (s := j) (by omega)
    have hu : ∀ c, c ≠ 34 → c ≠ 35 → pm_cpy v1 34 35 0 (60 * j) 60 c = v c := fun c h1 h2 => by
      funext i
      exact (if_neg (fun q => h2 q.1)).trans (by rw [e2 c h1])
    have h0 : WOK (pm_cpy v1 34 35 0 (60 * j) 60) S P := by
      unfold WOK
      rw [hu 29 (by decide) (by decide), hu 30 (by decide) (by decide), hu 31 (by decide) (by decide), hu 32 (by decide) (by decide)]
      exact h
    have hE0 : EC (pm_cpy v1 34 35 0 (60 * j) 60) S (-1) = T := by
      rw [← hE]
      unfold EC
      rw [hu 30 (by decide) (by decide), hu 31 (by decide) (by decide), hu 32 (by decide) (by decide), hu 33 (by decide) (by decide)]
    obtain ⟨v2, e4, e5, e6⟩ := lp_all n (j + 1) (pm_cpy v1 34 35 0 (60 * j) 60) (by omega) h0 hE0 (fun s p hs hp => by
      by_cases hsj : s = j
      · subst hsj
        have : pm_cpy v1 34 35 0 (60 * s) 60 35 (60 * s + p) = v1 34 p := by
          refine (if_pos (by omega)).trans ?_
          rw [show 0 + (60 * s + p - 60 * s) = p by omega]
        rw [this]
        exact e3 p hp
      · have : pm_cpy v1 34 35 0 (60 * j) 60 35 (60 * s + p) = v 35 (60 * s + p) := by
          refine (if_neg (by omega)).trans ?_
          rw [e2 35 (by decide)]
        rw [this]
        exact hA s p (by omega) hp)
    refine ⟨v2, ?_, fun c h1 h2 => (e5 c h1 h2).trans (hu c h1 h2), e6⟩
    refine Eq.trans ?_ e4
    rw [b_X10_spreadFromAll_2, if_pos (by omega), b_X10_spreadFromAll_10, e1, qB_some, psh_none, b_X10_spreadFromAll_16, w32_id (by omega) (by omega)]
    refine (qG_cpy (s := 34) (t := 35) (e := 0) (ns := 60) (nt := 3600) rfl rfl rfl rfl (Or.inl rfl) (by omega) (by omega) (by omega) (by omega) (by omega) rfl (nr_of rfl) (nr_of rfl)).trans ?_
    rw [show ((j : Int) * 60).toNat = 60 * j by omega]
    show qG L xs (d + 3) CX10_spreadFromAll 34 _ _ (qS (pm_cpy v1 34 35 0 (60 * j) 60)) = _
    rw [b_X10_spreadFromAll_34, w32_id (by omega) (by omega)]
    rfl
theorem c_all {S : Nat} {T : Nat → Nat → Int → Prop} (h : WOK v S P) (hE : EC v S (-1) = T) : ∃ v', qE L xs (d + 4) nX10_spreadFromAll [(2, 29)] (qS v) = some (none, qS v') ∧ (∀ c, c ≠ 34 → c ≠ 35 → v' c = v c) ∧ ∀ s p, s < P → p < P → Lst T s p 9999 (v' 35 (60 * s + p)) := by
  obtain ⟨v', e1, e2, e3⟩ := lp_all (L := L) (xs := xs) (d := d) P 0 v (by omega) h hE (fun s p hs => absurd hs (by omega))
  refine ⟨v', ?_, e2, e3⟩
  rw [e_X10_spreadFromAll, b_X10_spreadFromAll_0]
  exact e1
/-- the greatest of a row, of all -/
def mxF (m : Nat → Int) (w : Int) : Nat → Int
  | 0 => w
  | j + 1 => pm_max (mxF m w j) (m j)
def mxA (A : Nat → Nat → Int) (P : Nat) : Nat → Int
  | 0 => 0
  | i + 1 => mxF (A i) (mxA A P i) P
theorem lp_wrow {m : Nat → Int} {i : Nat} (w : Int) (hi : i < P) (hm : ∀ p, p < P → v 35 (60 * i + p) = m p) (h9 : v 29 9 = (P : Int)) (hP : P ≤ 60) : ∀ (n j : Nat), j + n = P → qG L xs d CX10_widestOfAll 14 [(2, 29), (0, mxF m w j), (0, (i : Int)), (0, (j : Int))] [] (qS v) = qG L xs d CX10_widestOfAll 44 [(2, 29), (0, mxF m w P), (0, (i : Int)), (0, (P : Int))] [] (qS v)
  | 0, j, hj => by
    rw [b_X10_widestOfAll_14, if_neg (by omega), show j = P by omega]
  | n + 1, j, hj => by
    have h3 := lp_wrow w hi hm h9 hP n (j + 1) (by omega)
    rw [show ((j + 1 : Nat) : Int) = (j : Int) + 1 by omega] at h3
    refine Eq.trans ?_ h3
    have e : w32 (w32 ((i : Int) * 60) + (j : Int)) = ((60 * i + j : Nat) : Int) := by
      rw [w32_id (z := (i : Int) * 60) (by omega) (by omega), w32_id (by omega) (by omega)]
      omega
    rw [b_X10_widestOfAll_14, if_pos (by omega), b_X10_widestOfAll_22, e, if_pos (by omega), Int.toNat_natCast, hm j (by omega), b_X10_widestOfAll_34, w32_id (by omega) (by omega)]
    rfl
theorem lp_wall {A : Nat → Nat → Int} (hA : ∀ s p, s < P → p < P → v 35 (60 * s + p) = A s p) (h9 : v 29 9 = (P : Int)) (hP : P ≤ 60) : ∀ (n i : Nat) (u3 : pm_V), i + n = P → qG L xs d CX10_widestOfAll 4 [(2, 29), (0, mxA A P i), (0, (i : Int)), u3] [] (qS v) = some (some (0, mxA A P P), qS v)
  | 0, i, u3, hi => by
    rw [b_X10_widestOfAll_4, if_neg (by omega), b_X10_widestOfAll_50, show i = P by omega]
  | n + 1, i, u3, hi => by
    have h3 := lp_wall hA h9 hP n (i + 1) (0, (P : Int)) (by omega)
    rw [show ((i + 1 : Nat) : Int) = (i : Int) + 1 by omega] at h3
    refine Eq.trans ?_ h3
    have l := lp_wrow (L := L) (xs := xs) (d := d) (v := v) (P := P) (m := A i) (i := i) (mxA A P i) (by omega) (fun p hp => hA i p (by omega) hp) h9 hP P 0 (by omega)
    rw [b_X10_widestOfAll_4, if_pos (by omega), b_X10_widestOfAll_12]
    refine Eq.trans l ?_
    rw [b_X10_widestOfAll_44, w32_id (by omega) (by omega)]
    rfl
theorem c_widestOfAll {A : Nat → Nat → Int} (hA : ∀ s p, s < P → p < P → v 35 (60 * s + p) = A s p) (h9 : v 29 9 = (P : Int)) (hP : P ≤ 60) : qE L xs (d + 1) nX10_widestOfAll [(2, 29)] (qS v) = some (some (0, mxA A P P), qS v) := by
  rw [e_X10_widestOfAll, b_X10_widestOfAll_0]
  exact lp_wall hA h9 hP P 0 (9, 0) (by omega)
theorem Rl_max {x y x' y' : Int} (h : Rl x y) (h' : Rl x' y') : Rl (pm_max x x') (pm_max y y') := by
  unfold pm_max
  rcases h with ⟨h1, h2, h3⟩ | ⟨h1, h2⟩
  · rcases h' with ⟨g1, g2, g3⟩ | ⟨g1, g2⟩
    · by_cases a : x < x'
      · rw [if_pos a, if_pos (by omega)]; exact Or.inl ⟨g1, g2, g3⟩
      · rw [if_neg a, if_neg (by omega)]; exact Or.inl ⟨h1, h2, h3⟩
    · rw [if_pos (by omega), if_pos (by omega)]; exact Or.inr ⟨g1, g2⟩
  · rcases h' with ⟨g1, g2, g3⟩ | ⟨g1, g2⟩
    · rw [if_neg (by omega), if_neg (by omega)]; exact Or.inr ⟨h1, h2⟩
    · rw [if_neg (by omega), if_neg (by omega)]; exact Or.inr ⟨h1, h2⟩
theorem lp_mrow {m : Nat → Int} {z : Int} (i : Nat) (hY : 2 * v 64 140 = (P : Int)) (hP : P ≤ 60) (hR : ∀ p, p < P → Rl (m p) (v 75 p)) : ∀ (n j : Nat) (w : Int), j + n = P → Rl (mxF m z j) w → ∃ w', qG L xs (d + 1) CX12_widestNow 25 [(2, 63), (0, w), (0, (i : Int)), (0, (j : Int))] [] (qS v) = qG L xs (d + 1) CX12_widestNow 62 [(2, 63), (0, w'), (0, (i : Int)), (0, (P : Int))] [] (qS v) ∧ Rl (mxF m z P) w'
  | 0, j, w, hj, hw => by
    have e : j = P := by omega
    subst e
    refine ⟨w, ?_, hw⟩
    rw [b_X12_widestNow_25, c_yardMany, qB_some, psh_some, b_X12_widestNow_31, w32_id (by omega) (by omega), if_neg (by omega)]
  | n + 1, j, w, hj, hw => by
    obtain ⟨w', e1, e2⟩ := lp_mrow i hY hP hR n (j + 1) (pm_max w (v 75 j)) (by omega) (Rl_max hw (hR j (by omega)))
    refine ⟨w', ?_, e2⟩
    rw [show ((j + 1 : Nat) : Int) = (j : Int) + 1 by omega] at e1
    refine Eq.trans ?_ e1
    rw [b_X12_widestNow_25, c_yardMany, qB_some, psh_some, b_X12_widestNow_31, w32_id (by omega) (by omega), if_pos (by omega), b_X12_widestNow_35, if_pos (by omega), Int.toNat_natCast, b_X12_widestNow_41]
    unfold pm_max
    by_cases g : w < v 75 j
    · rw [if_pos g, if_pos g, b_X12_widestNow_45, if_pos (by omega), Int.toNat_natCast, b_X12_widestNow_51, b_X12_widestNow_55, w32_id (by omega) (by omega)]
    · rw [if_neg g, if_neg g, b_X12_widestNow_54, b_X12_widestNow_55, w32_id (by omega) (by omega)]
theorem lp_mall {T : Nat → Nat → Int → Prop} {A : Nat → Nat → Int} (hP : P ≤ 60) (hT : Okg T P 99) (hA : ∀ s p, s < P → p < P → Lst T s p 9999 (A s p)) : ∀ (n i : Nat) (v : Nat → Nat → Int) (w : Int) (u3 : pm_V), i + n = P → 2 * v 64 140 = (P : Int) → MH v T → Rl (mxA A P i) w → ∃ v' r, qG L xs (d + 2) CX12_widestNow 8 [(2, 63), (0, w), (0, (i : Int)), u3] [] (qS v) = some (some (0, r), qS v') ∧ (∀ c, c ≠ 75 → c ≠ 76 → v' c = v c) ∧ Rl (mxA A P P) r
  | 0, i, v, w, u3, hi, hY, hM, hw => by
    have e : i = P := by omega
    subst e
    refine ⟨v, w, ?_, fun _ _ _ => rfl, hw⟩
    rw [b_X12_widestNow_8, c_yardMany, qB_some, psh_some, b_X12_widestNow_14, w32_id (by omega) (by omega), if_neg (by omega), b_X12_widestNow_68]
  | n + 1, i, v, w, u3, hi, hY, hM, hw => by
    obtain ⟨v1, e1, e2, e3⟩ := m_from (L := L) (xs := xs) (d := d) (s := i) hP hY hT hM (by omega)
    have hY1 : 2 * v1 64 140 = (P : Int) := by rw [e2 64 (by decide) (by decide)]; exact hY
    obtain ⟨w1, e4, e5⟩ := lp_mrow (L := L) (xs := xs) (d := d + 1) (v := v1) (m := A i) (z := mxA A P i) i hY1 hP (fun p hp => Lst_Rl (hA i p (by omega) hp) (e3 p hp)) P 0 w (by omega) hw
    obtain ⟨v2, r, e6, e7, e8⟩ := lp_mall hP hT hA n (i + 1) v1 w1 (0, (P : Int)) (by omega) hY1 (MH_cg (e2 74 (by decide) (by decide)) hM) e5
    refine ⟨v2, r, ?_, fun c h1 h2 => (e7 c h1 h2).trans (e2 c h1 h2), e8⟩
    refine Eq.trans ?_ e6
    rw [b_X12_widestNow_8, c_yardMany, qB_some, psh_some, b_X12_widestNow_14, w32_id (by omega) (by omega), if_pos (by omega), b_X12_widestNow_18, e1, qB_some, psh_none, b_X12_widestNow_23]
    refine Eq.trans e4 ?_
    rw [b_X12_widestNow_62, w32_id (by omega) (by omega)]
    rfl
/-- the reference's greatest way, a hole more as told -/
theorem m_widestNow {A : Nat → Nat → Int} {al : Int} (hW : WW v) (hC : CW v) (hN : LN L xs v c) (hal : v 63 22 = al) (h6 : v 63 23 = -1) (h7 : v 63 24 = -1) (ha : al < v 11 0) (hP : 2 * v 11 0 = (P : Int)) (hA : ∀ s p, s < P → p < P → Lst (SG v c al (-1) (-1)) s p 9999 (A s p)) : ∃ v' r, qE L xs (d + 93) nX12_widestNow [(2, 63)] (qS v) = some (some (0, r), qS v') ∧ fP v v' ∧ Rl (mxA A P P) r := by
  have hW0 := hW
  obtain ⟨q1, -⟩ := hW0
  obtain ⟨v1, e1, e2, e3⟩ := m_asks (L := L) (xs := xs) (d := d) hW hC hN hal h6 h7 ha
  have hT := SG_ok (al := al) (sh := -1) (sl := -1) hW hN.1 hP ha
  obtain ⟨v2, r, e4, e5, e6⟩ := lp_mall (L := L) (xs := xs) (d := d + 90) (P := P) (by omega) hT hA P 0 v1 0 (9, 0) (by omega) (by rw [fN_c (fA_N e2) (c := 64) (by omega), hC.1.1]; exact hP) e3 (Or.inl ⟨Int.le_refl 0, show (0 : Int) ≤ 5841 by decide, rfl⟩)
  refine ⟨v2, r, ?_, fP_t (fA_P e2) (fP_75 e5), e6⟩
  rw [e_X12_widestNow, b_X12_widestNow_0, e1, qB_some, psh_none, b_X12_widestNow_4]
  exact e4
theorem op_widest (hz : Wz L xs v c) : opW L xs d v nX11_widest nX12_widest [] := by
  have hz0 := hz
  obtain ⟨hW, hC, hM, hN, h5, h6, h7⟩ := hz
  have hW0 := hW
  obtain ⟨q1, -⟩ := hW0
  obtain ⟨P, hP⟩ : ∃ P : Nat, 2 * v 11 0 = (P : Int) := ⟨(2 * v 11 0).toNat, by omega⟩
  obtain ⟨v1, S, e1, e2, e3⟩ := c_lay (L := L) (xs := xs) (d := d + 89) hW hP hM
  obtain ⟨v2, e4, e5, e6⟩ := c_all (L := L) (xs := xs) (d := d + 95) e3.1 (EC_all hW e3)
  have f2 : fW v v2 := fW_t e2 (fW_own (fun c hc => e5 c (by omega) (by omega)))
  obtain ⟨hW2, hC2, hM2, hN2, h52, h62, h72⟩ := Wz_W f2 hz0
  have hP2 : 2 * v2 11 0 = (P : Int) := by rw [fW_c f2 (c := 11) (by omega)]; exact hP
  have h9 : v2 29 9 = (P : Int) := by rw [e5 29 (by decide) (by decide)]; exact e3.1.2.2.1
  have w1 := c_widestOfAll (L := L) (xs := xs) (d := d + 98) (v := v2) (P := P) (A := fun s p => v2 35 (60 * s + p)) (fun _ _ _ _ => rfl) h9 (by omega)
  obtain ⟨v3, r, e7, e8, e9⟩ := m_widestNow (L := L) (xs := xs) (d := d + 6) (P := P) (A := fun s p => v2 35 (60 * s + p)) hW2 hC2 hN2 h52 h62 h72 (by omega) hP2 (by rw [SG_W f2]; exact e6)
  refine ⟨if mxA (fun s p => v2 35 (60 * s + p)) P P < 9999 then mxA (fun s p => v2 35 (60 * s + p)) P P else -2, v2, v3, ?_, f2, ?_, e8⟩
  · rw [e_X11_widest, b_X11_widest_0, e1, qB_some, psh_none, b_X11_widest_15, e4, qB_some, psh_none, b_X11_widest_22, w1, qB_some, psh_some, b_X11_widest_29]
    by_cases g : mxA (fun s p => v2 35 (60 * s + p)) P P < 9999
    · rw [if_pos g, if_pos g, b_X11_widest_42, b_X11_widest_43]
    · rw [if_neg g, if_neg g, b_X11_widest_37, b_X11_widest_43]
  · rw [e_X12_widest, b_X12_widest_0, e7, qB_some, psh_some, b_X12_widest_4]
    by_cases g : mxA (fun s p => v2 35 (60 * s + p)) P P < 9999
    · rw [if_pos g, if_pos ((Rl_lt e9).mp g), b_X12_widest_11, b_X12_widest_17, Rl_eq e9 g]
    · rw [if_neg g, if_neg (fun q => g ((Rl_lt e9).mpr q)), b_X12_widest_15, b_X12_widest_17]
def goC (u : Nat → Nat → Int) (a r : Int) : Nat → Nat → Int := pm_up (pm_up (pm_up u 47 0 a) 47 1 (w32 (u 47 1 + r))) 47 2 (w32 (u 47 2 + 1))
def goM (u : Nat → Nat → Int) (a r : Int) : Nat → Nat → Int := pm_up (pm_up (pm_up u 63 32 a) 63 33 (w32 (u 63 33 + r))) 63 34 (w32 (u 63 34 + 1))
theorem op_go (hz : Wz L xs v c) (hd : v 63 32 = v 47 0) (a : Int) : ∃ r v1 v2, qE L xs (d + 100) nX11_go [(2, 0), (0, a)] (qS v) = some (some (0, r), qS v1) ∧ qE L xs (d + 100) nX12_go [(2, 63), (0, a)] (qS v1) = some (some (0, r), qS v2) ∧ ((fW v v1 ∧ fP v1 v2) ∨ ∃ u1 u2, fW v u1 ∧ v1 = goC u1 a r ∧ fP v1 u2 ∧ v2 = goM u2 a r ∧ 0 ≤ a ∧ a < 2 * v 11 0 ∧ 0 ≤ r ∧ r ≤ 5841) := by
  have hz0 := hz
  obtain ⟨hW, hC, hM, hN, h5, h6, h7⟩ := hz
  have hW0 := hW
  obtain ⟨q1, -⟩ := hW0
  have k1 := hC.1.1
  obtain ⟨P, hP⟩ : ∃ P : Nat, 2 * v 11 0 = (P : Int) := ⟨(2 * v 11 0).toNat, by omega⟩
  by_cases g : 0 ≤ a ∧ a < 2 * v 11 0
  · by_cases g0 : 0 ≤ v 47 0 ∧ v 47 0 < 2 * v 11 0
    · obtain ⟨p, rfl⟩ : ∃ p : Nat, a = (p : Int) := ⟨a.toNat, by omega⟩
      obtain ⟨s, hs⟩ : ∃ s : Nat, v 47 0 = (s : Int) := ⟨(v 47 0).toNat, by omega⟩
      have hsP : s < P := by omega
      have hpP : p < P := by omega
      obtain ⟨v1, S, e1, l2, l3⟩ := c_lay (L := L) (xs := xs) (d := d + 89) hW hP hM
      obtain ⟨v2, e2, l5, e5⟩ := c_from (L := L) (xs := xs) (d := d + 96) l3.1 (EC_all hW l3) hsP
      have e3 : fW v v2 := fW_t l2 (fW_own (fun c hc => l5 c (by omega)))
      have e4 : WOK v2 S P := WOK_cg l5 l3.1
      have hlay : fW v v2 := e3
      have base1 : qE L xs (d + 100) nX11_go [(2, 0), (0, (p : Int))] (qS v) = (if v2 34 p < 9999 then some (some (0, v2 34 p), qS (goC v2 p (v2 34 p))) else some (some (0, -2), qS v2)) := by
        have hv : v1 47 0 = (s : Int) := by rw [fW_c l2 (c := 47) (by omega)]; exact hs
        rw [e_X11_go, b_X11_go_0, c_hasPlace (by omega) (by omega), qB_some, psh_some, b_X11_go_8, zb_0, if_pos g, b_X11_go_13, c_hasPlace (by omega) (by omega), qB_some, psh_some, b_X11_go_27, zb_0, if_pos g0, b_X11_go_33, e1, qB_some, psh_none, b_X11_go_48, hv, e2, qB_some, psh_none, b_X11_go_63, c_minutes e4 hpP, qB_some, psh_some, b_X11_go_71]
        by_cases z : v2 34 p < 9999
        · rw [if_pos z, if_pos z, b_X11_go_82, b_X11_go_90, b_X11_go_103, b_X11_go_116, up_ne (a := 47) (i := 1) (by omega), up_ne (a := 47) (i := 2) (by omega), up_ne (a := 47) (i := 2) (by omega)]
          rfl
        · rw [if_neg z, if_neg z, b_X11_go_79]
      have core : ∀ w1 : Nat → Nat → Int, fW v w1 ∨ w1 = goC v2 p (v2 34 p) → ∃ u2, qE L xs (d + 100) nX12_go [(2, 63), (0, (p : Int))] (qS w1) = (if v2 34 p < 9999 then some (some (0, v2 34 p), qS (goM u2 p (v2 34 p))) else some (some (0, -2), qS u2)) ∧ fP w1 u2 := by
        intro w1 hw1
        have cells : ∀ c, c < 23 ∨ c = 63 ∨ (63 < c ∧ c < 73) ∨ 76 < c → w1 c = v c := fun c hc => by
          rcases hw1 with h | h
          · exact fW_c h (by omega)
          · rw [h]
            unfold goC
            rw [up_cell (by omega), up_cell (by omega), up_cell (by omega)]
            exact fW_c hlay (by omega)
        have hWw : WW w1 := by
          have : WW w1 = WW v := by
            unfold WW
            rw [cells 1 (by omega), cells 7 (by omega), cells 9 (by omega), cells 10 (by omega), cells 11 (by omega)]
          rw [this]; exact hW
        have hCw : CW w1 := by
          have : CW w1 = CW v := by
            unfold CW
            rw [cells 64 (by omega), cells 68 (by omega), cells 69 (by omega), cells 70 (by omega), cells 1 (by omega), cells 6 (by omega), cells 7 (by omega), cells 8 (by omega), cells 9 (by omega), cells 10 (by omega), cells 11 (by omega), cells 15 (by omega), cells 16 (by omega), cells 17 (by omega), cells 63 (by omega)]
          rw [this]; exact hC
        have hSw : SG w1 = SG v := by
          funext c al sh sl a b k
          unfold SG sRo sHo sLa
          rw [cells 1 (by omega), cells 6 (by omega), cells 7 (by omega), cells 8 (by omega), cells 9 (by omega), cells 10 (by omega), cells 11 (by omega), cells 15 (by omega), cells 16 (by omega), cells 17 (by omega)]
        have hNw : LN L xs w1 c := LN_g hN ⟨fun c hc => cells c (by omega), fun k _ => by rw [cells 63 (by omega)]⟩
        have hPw : 2 * w1 11 0 = (P : Int) := by rw [cells 11 (by omega)]; exact hP
        have k2 := hCw.1.1
        have d2 : w1 63 32 = (s : Int) := by rw [cells 63 (by omega)]; omega
        obtain ⟨v3, f1, f2, f3⟩ := m_asks (L := L) (xs := xs) (d := d + 7) (al := -1) (sh := -1) (sl := -1) hWw hCw hNw (by rw [cells 63 (by omega)]; exact h5) (by rw [cells 63 (by omega)]; exact h6) (by rw [cells 63 (by omega)]; exact h7) (by omega)
        rw [hSw] at f3
        have hT : Okg (SG v c (-1) (-1) (-1)) P 99 := SG_ok hW hM.1 hP (by omega)
        have k3 : 2 * v3 64 140 = (P : Int) := by rw [fN_c (fA_N f2) (c := 64) (by omega)]; omega
        obtain ⟨v4, r4, f4, f5, f6⟩ := m_wayFrom (L := L) (xs := xs) (d := d + 96) (s := s) (p := p) (by omega) k3 hT f3 hsP hpP
        have d3 : v3 63 32 = (s : Int) := by rw [f2.2 32 (by omega)]; exact d2
        refine ⟨v4, ?_, fP_t (fA_P f2) (fP_75 f5)⟩
        rw [e_X12_go, b_X12_go_0, c_isPlace (by omega) (by omega), qB_some, psh_some, b_X12_go_6, zb_0, if_pos (by omega), b_X12_go_11, c_isPlace (by omega) (by omega), qB_some, psh_some, b_X12_go_20, zb_0, if_pos (by omega), b_X12_go_26, f1, qB_some, psh_none, b_X12_go_30, d3, f4, qB_some, psh_some, b_X12_go_39]
        rcases Lst_one (e5 p hpP) f6 with ⟨x1, x2, x3, -⟩ | ⟨x1, x2, -⟩
        · rw [if_neg (by omega), if_pos (by omega), b_X12_go_47, b_X12_go_52, b_X12_go_62, b_X12_go_72, up_ne (a := 63) (i := 33) (by omega), up_ne (a := 63) (i := 34) (by omega), up_ne (a := 63) (i := 34) (by omega), x3]
          rfl
        · rw [if_pos (by omega), if_neg (by omega), b_X12_go_44]
      by_cases z : v2 34 p < 9999
      · obtain ⟨u2, g1, g2⟩ := core (goC v2 p (v2 34 p)) (Or.inr rfl)
        have zb : 0 ≤ v2 34 p ∧ v2 34 p ≤ 5841 := by
          rcases e5 p hpP with ⟨x1, x2, -⟩ | ⟨x1, -⟩
          · exact ⟨x1, x2⟩
          · omega
        refine ⟨v2 34 p, goC v2 p (v2 34 p), goM u2 p (v2 34 p), ?_, ?_, Or.inr ⟨v2, u2, e3, rfl, g2, rfl, by omega, by omega, zb.1, zb.2⟩⟩
        · rw [base1, if_pos z]
        · rw [g1, if_pos z]
      · obtain ⟨u2, g1, g2⟩ := core v2 (Or.inl e3)
        refine ⟨-2, v2, u2, ?_, ?_, Or.inl ⟨e3, g2⟩⟩
        · rw [base1, if_neg z]
        · rw [g1, if_neg z]
    · refine ⟨-2, v, v, ?_, ?_, Or.inl ⟨fW_r v, fP_r v⟩⟩
      · rw [e_X11_go, b_X11_go_0, c_hasPlace (by omega) (by omega), qB_some, psh_some, b_X11_go_8, zb_0, if_pos g, b_X11_go_13, c_hasPlace (by omega) (by omega), qB_some, psh_some, b_X11_go_27, zb_0, if_neg g0, b_X11_go_30]
      · rw [e_X12_go, b_X12_go_0, c_isPlace (by omega) (by omega), qB_some, psh_some, b_X12_go_6, zb_0, if_pos (by omega), b_X12_go_11, c_isPlace (by omega) (by omega), qB_some, psh_some, b_X12_go_20, zb_0, if_neg (by omega), b_X12_go_23]
  · refine ⟨-1, v, v, ?_, ?_, Or.inl ⟨fW_r v, fP_r v⟩⟩
    · rw [e_X11_go, b_X11_go_0, c_hasPlace (by omega) (by omega), qB_some, psh_some, b_X11_go_8, zb_0, if_neg g, b_X11_go_11]
    · rw [e_X12_go, b_X12_go_0, c_isPlace (by omega) (by omega), qB_some, psh_some, b_X12_go_6, zb_0, if_neg (by omega), b_X12_go_9]
end WI
