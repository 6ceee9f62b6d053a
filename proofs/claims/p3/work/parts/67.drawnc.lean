/-! DRAWN: the reference's; both answer, and alike -/
section DT
variable {L : Nat} {xs : Nat → Int} {d : Nat} {v : Nat → Nat → Int} {c : Nat → Nat → Nat → Int} {P : Nat}
theorem lp_mclear (x1 x2 x3 x4 : Int) : ∀ (n j : Nat) (v : Nat → Nat → Int), j + n = 60 → (∀ q, q < j → v 81 q = 0) → ∃ v', qG L xs d CX12_drawn 41 [(2, 63), (0, x1), (0, x2), (0, x3), (0, x4), (0, (j : Int)), (9, 0), (9, 0), (9, 0), (9, 0), (9, 0), (9, 0)] [] (qS v) = qG L xs d CX12_drawn 62 [(2, 63), (0, x1), (0, x2), (0, x3), (0, x4), (0, 60), (9, 0), (9, 0), (9, 0), (9, 0), (9, 0), (9, 0)] [] (qS v') ∧ (∀ c, c ≠ 81 → v' c = v c) ∧ ∀ q, q < 60 → v' 81 q = 0
  | 0, j, v, hj, h => by
    have e : j = 60 := by omega
    subst e
    refine ⟨v, ?_, fun _ _ => rfl, h⟩
    rw [b_X12_drawn_41, if_neg (by omega)]
    rfl
  | n + 1, j, v, hj, h => by
    obtain ⟨v', e1, e2, e3⟩ := lp_mclear x1 x2 x3 x4 n (j + 1) (pm_up v 81 j 0) (by omega) (fun q hq => by
      by_cases hqj : q = j
      · rw [hqj, up_eq]
      · rw [up_ne (by omega)]
        exact h q (by omega))
    refine ⟨v', ?_, fun c hc => (e2 c hc).trans (up_cell hc), e3⟩
    refine Eq.trans ?_ e1
    rw [b_X12_drawn_41, if_pos (by omega), b_X12_drawn_48, if_pos (by omega), Int.toNat_natCast, b_X12_drawn_56, w32_id (by omega) (by omega)]
    rfl
/-- the steps out of p: 1, else 0 -/
def mF (v : Nat → Nat → Int) (F : Nat → Nat → Int) (P : Nat) : Prop := ∀ p q, p < P → q < P → (F p q = 0 ∨ F p q = 1) ∧ (F p q = 1 ↔ v 74 (60 * p + q) < 1000000)
theorem ix_m (s t : Nat) (hs : s < 100) (ht : t < 100) : w32 (w32 (60 * (s : Int)) + (t : Int)) = ((60 * s + t : Nat) : Int) := by
  rw [w32_id (z := 60 * (s : Int)) (by omega) (by omega), w32_id (by omega) (by omega)]
  omega
theorem lp_mcnt {F : Nat → Nat → Int} {p : Nat} (x1 x2 x3 x4 x5 x7 x8 : Int) (u11 : pm_V) (hP : P ≤ 60) (hp : p < P) (hY : 2 * v 64 140 = (P : Int)) (hF : mF v F P) : ∀ (n j : Nat) (x t : Int), j + n = P → 0 ≤ x → x + onF (F p) n j = t → t ≤ 1000 → qG L xs (d + 1) CX12_drawn 105 [(2, 63), (0, x1), (0, x2), (0, x3), (0, x4), (0, x5), (0, (p : Int)), (0, x7), (0, x8), (0, x), (0, (j : Int)), u11] [] (qS v) = qG L xs (d + 1) CX12_drawn 150 [(2, 63), (0, x1), (0, x2), (0, x3), (0, x4), (0, x5), (0, (p : Int)), (0, x7), (0, x8), (0, t), (0, (P : Int)), u11] [] (qS v)
  | 0, j, x, t, hj, hx, ht, ht2 => by
    unfold onF at ht
    rw [b_X12_drawn_105, c_yardMany, qB_some, psh_some, b_X12_drawn_112, w32_id (by omega) (by omega), if_neg (by omega), show x = t by omega, show j = P by omega]
  | n + 1, j, x, t, hj, hx, ht, ht2 => by
    unfold onF at ht
    have h1 := hF p j hp (by omega)
    have h2 := onF_in (f := F p) n (j + 1) (fun q _ hq => (hF p q hp (by omega)).1)
    have ih := lp_mcnt x1 x2 x3 x4 x5 x7 x8 u11 hP hp hY hF n (j + 1) (x + F p j) t (by omega) (by omega) (by omega) ht2
    refine Eq.trans ?_ ih
    rw [b_X12_drawn_105, c_yardMany, qB_some, psh_some, b_X12_drawn_112, w32_id (by omega) (by omega), if_pos (by omega), b_X12_drawn_116, ix_m p j (by omega) (by omega), if_pos (ix_r p j (by omega) (by omega)), Int.toNat_natCast, b_X12_drawn_131]
    by_cases g : v 74 (60 * p + j) < 1000000
    · have := h1.2.mpr g
      rw [if_pos g, b_X12_drawn_136, b_X12_drawn_141, this, w32_id (by omega) (by omega), w32_id (by omega) (by omega)]
      rfl
    · have : F p j = 0 := by
        rcases h1.1 with z | z
        · exact z
        · exact absurd (h1.2.mp z) g
      rw [if_neg g, b_X12_drawn_140, b_X12_drawn_141, this, w32_id (by omega) (by omega), w32_id (by omega) (by omega)]
      rfl
theorem lp_mkth {F : Nat → Nat → Int} {p : Nat} (x1 x2 x3 x4 x5 x7 x8 x9 : Int) (hP : P ≤ 60) (hp : p < P) (hF : mF v F P) : ∀ (n j : Nat) (k : Int), j + n = P → 0 ≤ k → k < onF (F p) n j → ∃ k', qG L xs d CX12_drawn 168 [(2, 63), (0, x1), (0, x2), (0, x3), (0, x4), (0, x5), (0, (p : Int)), (0, x7), (0, x8), (0, x9), (0, k), (0, (j : Int))] [] (qS v) = qG L xs d CX12_drawn 225 [(2, 63), (0, x1), (0, x2), (0, x3), (0, x4), (0, x5), (0, (p : Int)), (0, x7), (0, x8), (0, x9), (0, k'), (0, (kthF (F p) n j k : Int))] [] (qS v)
  | 0, j, k, hj, h1, h2 => by
    unfold onF at h2
    omega
  | n + 1, j, k, hj, h1, h2 => by
    unfold onF at h2
    unfold kthF
    have hj2 := hF p j hp (by omega)
    have hk := onF_in (f := F p) n (j + 1) (fun q _ hq => (hF p q hp (by omega)).1)
    have e0 := ix_m p j (by omega) (by omega)
    have er := ix_r p j (by omega) (by omega)
    by_cases g : F p j = 1
    · have g1 := hj2.2.mp g
      by_cases g2 : k = 0
      · refine ⟨k, ?_⟩
        rw [if_pos ⟨g, g2⟩, b_X12_drawn_168, e0, if_pos er, Int.toNat_natCast, b_X12_drawn_181, if_pos g1, b_X12_drawn_186, if_neg (by omega)]
      · obtain ⟨k', ih⟩ := lp_mkth x1 x2 x3 x4 x5 x7 x8 x9 hP hp hF n (j + 1) (k - F p j) (by omega) (by omega) (by omega)
        refine ⟨k', ?_⟩
        rw [if_neg (fun q => g2 q.2), ← ih, b_X12_drawn_168, e0, if_pos er, Int.toNat_natCast, b_X12_drawn_181, if_pos g1, b_X12_drawn_186, if_pos (by omega), b_X12_drawn_191, e0, if_pos er, Int.toNat_natCast, b_X12_drawn_206, if_pos g1, b_X12_drawn_211, b_X12_drawn_216, g, w32_id (by omega) (by omega), w32_id (by omega) (by omega)]
        rfl
    · have g0 : F p j = 0 := by
        rcases hj2.1 with z | z
        · exact z
        · exact absurd z g
      have g1 : ¬ v 74 (60 * p + j) < 1000000 := fun q => g (hj2.2.mpr q)
      obtain ⟨k', ih⟩ := lp_mkth x1 x2 x3 x4 x5 x7 x8 x9 hP hp hF n (j + 1) (k - F p j) (by omega) (by omega) (by omega)
      refine ⟨k', ?_⟩
      rw [if_neg (fun q => g q.1), ← ih, b_X12_drawn_168, e0, if_pos er, Int.toNat_natCast, b_X12_drawn_181, if_neg g1, b_X12_drawn_191, e0, if_pos er, Int.toNat_natCast, b_X12_drawn_206, if_neg g1, b_X12_drawn_215, b_X12_drawn_216, g0, w32_id (by omega) (by omega), w32_id (by omega) (by omega)]
      rfl
theorem lp_mdrawn {T : Nat → Nat → Int → Prop} {F : Nat → Nat → Int} {a N : Nat} {z : Int} (x1 x4 : Int) (hP : P ≤ 60) (hT : isF T P F) (hF : mF v F P) (hY : 2 * v 64 140 = (P : Int)) (ha : a < P) (hN : N ≤ 200) : ∀ (n i : Nat) (w : Nat → Nat → Int) (u9 u10 u11 : pm_V), i + n = N → (∀ c, c ≠ 81 → w c = v c) → (∀ q, q < P → w 81 q = wvF F P a z (i + 1) q) → ∃ w' w9 w10 w11, qG L xs (d + 1) CX12_drawn 81 [(2, 63), (0, x1), (0, z), (0, (N : Int)), (0, x4), (0, (wkF F P a z i).2), (0, ((wkF F P a z i).1 : Int)), (0, onF (wvF F P a z (i + 1)) P 0), (0, (i : Int)), u9, u10, u11] [] (qS w) = qG L xs (d + 1) CX12_drawn 263 [(2, 63), (0, x1), (0, z), (0, (N : Int)), (0, x4), (0, (wkF F P a z N).2), (0, ((wkF F P a z N).1 : Int)), (0, onF (wvF F P a z (N + 1)) P 0), (0, (N : Int)), w9, w10, w11] [] (qS w') ∧ ∀ c, c ≠ 81 → w' c = v c
  | 0, i, w, u9, u10, u11, hi, hw, hv => by
    have e : i = N := by omega
    subst e
    refine ⟨w, u9, u10, u11, ?_, hw⟩
    rw [b_X12_drawn_81, if_neg (by omega)]
  | n + 1, i, w, u9, u10, u11, hi, hw, hv => by
    have hp := wkF_in hT z ha i
    have h01 := wvF_01 F P a z (i + 1)
    have hin := onF_in (f := wvF F P a z (i + 1)) P 0 (fun q _ _ => h01 q)
    have eN : wkF F P a z (i + 1) = (nxF F P (wkF F P a z i).1 (zN (wkF F P a z i).2), zN (wkF F P a z i).2) := rfl
    have eV : wvF F P a z (i + 1 + 1) = fun q => if q = (wkF F P a z (i + 1)).1 then 1 else wvF F P a z (i + 1) q := rfl
    have eW : wvF F P a z (i + 1) (wkF F P a z i).1 = 1 := if_pos rfl
    generalize hpq : (wkF F P a z i).1 = p at hp eN eW ⊢
    generalize hzq : (wkF F P a z i).2 = y at eN ⊢
    have h74 : w 74 = v 74 := hw 74 (by decide)
    have h64 : w 64 = v 64 := hw 64 (by decide)
    have hFw : mF w F P := by unfold mF; rw [h74]; exact hF
    have hYw : 2 * w 64 140 = (P : Int) := by rw [h64]; exact hY
    have l1 := lp_mcnt (L := L) (xs := xs) (d := d) (v := w) (F := F) (p := p) x1 z (N : Int) x4 (zN y) (onF (wvF F P a z (i + 1)) P 0) (i : Int) u11 hP hp hYw hFw P 0 0 (onF (F p) P 0) (by omega) (by omega) (by omega) (by have := onF_in (f := F p) P 0 (fun q _ hq => (hT p q hp (by omega)).1); omega)
    have a1 : qG L xs (d + 1) CX12_drawn 81 [(2, 63), (0, x1), (0, z), (0, (N : Int)), (0, x4), (0, y), (0, (p : Int)), (0, onF (wvF F P a z (i + 1)) P 0), (0, (i : Int)), u9, u10, u11] [] (qS w) = qG L xs (d + 1) CX12_drawn 150 [(2, 63), (0, x1), (0, z), (0, (N : Int)), (0, x4), (0, zN y), (0, (p : Int)), (0, onF (wvF F P a z (i + 1)) P 0), (0, (i : Int)), (0, onF (F p) P 0), (0, (P : Int)), u11] [] (qS w) := by
      rw [b_X12_drawn_81, if_pos (by omega), b_X12_drawn_87]
      exact l1
    by_cases g : 0 < onF (F p) P 0
    · have ht := tm_in (ush8 (zN y)) g
      obtain ⟨k', l2⟩ := lp_mkth (L := L) (xs := xs) (d := d + 1) (v := w) (F := F) (p := p) x1 z (N : Int) x4 (zN y) (onF (wvF F P a z (i + 1)) P 0) (i : Int) (onF (F p) P 0) hP hp hFw P 0 _ (by omega) ht.1 ht.2
      have eq : nxF F P p (zN y) = kthF (F p) P 0 (Int.tmod (pm_ush (zN y) 8) (onF (F p) P 0)) := if_pos g
      have hq : kthF (F p) P 0 (Int.tmod (pm_ush (zN y) 8) (onF (F p) P 0)) < P := by
        have := kthF_in (f := F p) P 0 _ (fun q _ hq => (hT p q hp (by omega)).1) ht.1 ht.2
        omega
      rw [← eq] at l2 hq
      rw [eN] at eV
      dsimp only at eV
      generalize nxF F P p (zN y) = q at eN eV l2 hq
      have hw1 : ∀ c, c ≠ 81 → pm_up w 81 q 1 c = v c := fun c hc => (up_cell hc).trans (hw c hc)
      obtain ⟨w', w9, w10, w11, e1, e2⟩ := lp_mdrawn x1 x4 hP hT hF hY ha hN n (i + 1) (pm_up w 81 q 1) (0, onF (F p) P 0) (0, k') (0, (q : Int)) (by omega) hw1 (fun r hr => by
        rw [up_fn, eV]
        dsimp only
        rw [hv r hr])
      refine ⟨w', w9, w10, w11, ?_, e2⟩
      rw [eN, eV, onF_set, if_pos (by omega)] at e1
      refine Eq.trans ?_ e1
      dsimp only
      rw [a1, b_X12_drawn_150, if_pos g, b_X12_drawn_155, if_neg (by omega), b_X12_drawn_163]
      refine Eq.trans l2 ?_
      rw [b_X12_drawn_225, if_pos (by omega), Int.toNat_natCast, hv q hq, b_X12_drawn_238]
      have h01q := h01 q
      rcases h01q with z0 | z0
      · rw [if_pos z0, b_X12_drawn_245, b_X12_drawn_246, if_pos (by omega), Int.toNat_natCast, b_X12_drawn_257, w32_id (by omega) (by omega), w32_id (by omega) (by omega), z0]
        rfl
      · rw [if_neg (by omega), b_X12_drawn_241, b_X12_drawn_246, if_pos (by omega), Int.toNat_natCast, b_X12_drawn_257, w32_id (by omega) (by omega), w32_id (by omega) (by omega), z0]
        rfl
    · have eq : nxF F P p (zN y) = p := if_neg g
      rw [eq] at eN
      have eV2 : wvF F P a z (i + 1 + 1) = wvF F P a z (i + 1) := by
        rw [eV, eN]
        funext r
        dsimp only
        by_cases hr : r = p
        · rw [if_pos hr, hr, eW]
        · rw [if_neg hr]
      obtain ⟨w', w9, w10, w11, e1, e2⟩ := lp_mdrawn x1 x4 hP hT hF hY ha hN n (i + 1) w (0, onF (F p) P 0) (0, (P : Int)) u11 (by omega) hw (by rw [eV2]; exact hv)
      refine ⟨w', w9, w10, w11, ?_, e2⟩
      rw [eN, eV2] at e1
      refine Eq.trans ?_ e1
      dsimp only
      rw [a1, b_X12_drawn_150, if_neg g, b_X12_drawn_257, w32_id (by omega) (by omega)]
      rfl
theorem op_drawn (hz : Wz L xs v c) (a z n w : Int) : opW L xs d v nX11_drawn nX12_drawn [(0, a), (0, z), (0, n), (0, w)] := by
  have hz0 := hz
  obtain ⟨hW, hC, hM, hN, h5, h6, h7⟩ := hz
  have hW0 := hW
  obtain ⟨q1, -⟩ := hW0
  have k1 := hC.1.1
  obtain ⟨P, hP⟩ : ∃ P : Nat, 2 * v 11 0 = (P : Int) := ⟨(2 * v 11 0).toNat, by omega⟩
  by_cases g : (0 ≤ a ∧ a < 2 * v 11 0) ∧ (1 ≤ n ∧ n ≤ 200) ∧ 0 ≤ w ∧ w ≤ 1
  · obtain ⟨s, rfl⟩ : ∃ s : Nat, a = (s : Int) := ⟨a.toNat, by omega⟩
    obtain ⟨N, rfl⟩ : ∃ N : Nat, n = (N : Int) := ⟨n.toNat, by omega⟩
    have hs : s < P := by omega
    have hP60 : P ≤ 60 := by omega
    obtain ⟨v1, S, e1, e2, e3⟩ := c_lay (L := L) (xs := xs) (d := d + 89) hW hP hM
    have hE := EC_all hW e3
    obtain ⟨F, hF⟩ : ∃ F : Nat → Nat → Int, isF (SG v c (-1) (-1) (-1)) P F := by
      refine ⟨fun p q => @ite Int (∃ k, SG v c (-1) (-1) (-1) p q k) (Classical.propDecidable _) 1 0, fun p q _ _ => ?_⟩
      dsimp only
      by_cases h : ∃ k, SG v c (-1) (-1) (-1) p q k
      · rw [if_pos h]
        exact ⟨Or.inr rfl, fun _ => h, fun _ => rfl⟩
      · rw [if_neg h]
        exact ⟨Or.inl rfl, fun q => absurd q (by decide), fun q => absurd q h⟩
    obtain ⟨v2, e4, e5, e6⟩ := c_walk (L := L) (xs := xs) (d := d + 96) (F := F) (z := z) e3.1 (by rw [hE]; exact hF) hs (show N ≤ 200 by omega)
    have f2 : fW v v2 := fW_t e2 (fW_own (fun c hc => e5 c (by omega) (by omega)))
    obtain ⟨hW2, hC2, hM2, hN2, h52, h62, h72⟩ := Wz_W f2 hz0
    have h9 : v2 29 9 = (P : Int) := by rw [e5 29 (by decide) (by decide)]; exact e3.1.2.2.1
    have c11 : v2 11 0 = v 11 0 := by rw [fW_c f2 (c := 11) (by omega)]
    have k2 := hC2.1.1
    obtain ⟨v3, f1, f3, f4⟩ := m_asks (L := L) (xs := xs) (d := d + 7) hW2 hC2 hN2 h52 h62 h72 (by omega)
    rw [SG_W f2] at f4
    have k3 : 2 * v3 64 140 = (P : Int) := by rw [fN_c (fA_N f3) (c := 64) (by omega)]; omega
    obtain ⟨v4, f5, f6, f7⟩ := lp_mclear (L := L) (xs := xs) (d := d + 99) (s : Int) z (N : Int) w 60 0 v3 (by omega) (fun q hq => absurd hq (by omega))
    have mF4 : mF (pm_up v4 81 s 1) F P := fun p q hp hq => by
      obtain ⟨b1, b2⟩ := hF p q hp hq
      refine ⟨b1, ?_⟩
      rw [b2, up_cell (by decide), f6 74 (by decide)]
      constructor
      · rintro ⟨k, hk⟩
        have := f4.2.1 p q k hk
        have := f4.2.2 p q k hk
        omega
      · intro hlt
        rcases f4.1 p q (by omega) (by omega) with y | y
        · omega
        · exact ⟨_, y⟩
    have k4 : 2 * pm_up v4 81 s 1 64 140 = (P : Int) := by rw [up_cell (by decide), f6 64 (by decide)]; exact k3
    have hw0 : wvF F P s z 1 = fun q => if q = s then 1 else 0 := rfl
    have on0 : onF (wvF F P s z 1) P 0 = 1 := by
      have z0 : onF (fun _ => (0 : Int)) P 0 = 0 := by
        have : ∀ n j, onF (fun _ => (0 : Int)) n j = 0 := fun n => by
          induction n with
          | zero => intro j; rfl
          | succ n ih => intro j; unfold onF; rw [ih]; rfl
        exact this P 0
      rw [hw0, onF_set (f := fun _ => (0 : Int)), z0, if_pos (by omega)]
      rfl
    obtain ⟨v5, x9, x10, x11, f8, f9⟩ := lp_mdrawn (L := L) (xs := xs) (d := d + 98) (v := pm_up v4 81 s 1) (T := SG v c (-1) (-1) (-1)) (F := F) (a := s) (N := N) (z := z) (s : Int) w hP60 hF mF4 k4 hs (by omega) N 0 (pm_up v4 81 s 1) (9, 0) (9, 0) (9, 0) (by omega) (fun _ _ => rfl) (fun q hq => by
      rw [hw0, up_fn]
      dsimp only
      rw [f7 q (by omega)])
    rw [show (0 : Nat) + 1 = 1 from rfl, on0] at f8
    have fin : fP v2 v5 := by
      have t1 : fP v2 v3 := fA_P f3
      have t2 : ∀ c, c ≠ 81 → v5 c = v3 c := fun c hc => (f9 c hc).trans ((up_cell hc).trans (f6 c hc))
      exact fP_t t1 ⟨⟨fun c hc => t2 c (by omega), fun k _ => by rw [t2 63 (by decide)]⟩, by rw [t2 63 (by decide)], by rw [t2 63 (by decide)], by rw [t2 63 (by decide)]⟩
    have cw := c_countWalked (L := L) (xs := xs) (d := d + 98) (v := v2) (f := wvF F P s z (N + 1)) h9 hP60 e6 (wvF_01 F P s z (N + 1))
    refine ⟨if w = 0 then ((wkF F P s z N).1 : Int) else onF (wvF F P s z (N + 1)) P 0, v2, v5, ?_, f2, ?_, fin⟩
    · rw [e_X11_drawn, b_X11_drawn_0, c_hasPlace (by omega) (by omega), qB_some, psh_some, b_X11_drawn_8, zb_0, if_pos g.1, b_X11_drawn_11, if_neg (by omega), b_X11_drawn_16, if_neg (by omega), b_X11_drawn_23, if_neg (by omega), b_X11_drawn_28, if_neg (by omega), b_X11_drawn_36, e1, qB_some, psh_none, b_X11_drawn_51, e4, qB_some, psh_some, b_X11_drawn_61]
      by_cases w0 : w = 0
      · rw [if_pos w0, if_pos w0, b_X11_drawn_68, b_X11_drawn_80]
      · rw [if_neg w0, if_neg w0, b_X11_drawn_73, cw, qB_some, psh_some, b_X11_drawn_80]
    · rw [e_X12_drawn, b_X12_drawn_0, c_isPlace (by omega) (by omega), qB_some, psh_some, b_X12_drawn_6, zb_0, if_pos (by omega), b_X12_drawn_9, c_within, qB_some, psh_some, b_X12_drawn_18, zb_0, if_pos (by omega), b_X12_drawn_21, c_within, qB_some, psh_some, b_X12_drawn_29, zb_0, if_pos (by omega), b_X12_drawn_34, f1, qB_some, psh_none, b_X12_drawn_38]
      refine Eq.trans f5 ?_
      rw [b_X12_drawn_62, if_pos (by omega), Int.toNat_natCast, b_X12_drawn_78]
      refine Eq.trans f8 ?_
      rw [b_X12_drawn_263]
      by_cases w0 : w = 0
      · rw [if_pos w0, if_pos w0, b_X12_drawn_268, b_X12_drawn_275]
      · rw [if_neg w0, if_neg w0, b_X12_drawn_273, b_X12_drawn_275]
  · refine opW_no (r := -1) ?_ ?_
    · rw [e_X11_drawn, b_X11_drawn_0, c_hasPlace (by omega) (by omega), qB_some, psh_some, b_X11_drawn_8, zb_0]
      by_cases g1 : 0 ≤ a ∧ a < 2 * v 11 0
      · rw [if_pos g1, b_X11_drawn_11]
        by_cases g2 : n < 1
        · rw [if_pos g2, b_X11_drawn_34]
        · rw [if_neg g2, b_X11_drawn_16]
          by_cases g3 : 200 < n
          · rw [if_pos g3, b_X11_drawn_34]
          · rw [if_neg g3, b_X11_drawn_23]
            by_cases g4 : w < 0
            · rw [if_pos g4, b_X11_drawn_34]
            · rw [if_neg g4, b_X11_drawn_28, if_pos (by omega), b_X11_drawn_34]
      · rw [if_neg g1, b_X11_drawn_34]
    · rw [e_X12_drawn, b_X12_drawn_0, c_isPlace (by omega) (by omega), qB_some, psh_some, b_X12_drawn_6, zb_0, k1]
      by_cases g1 : 0 ≤ a ∧ a < 2 * v 11 0
      · rw [if_pos g1, b_X12_drawn_9, c_within, qB_some, psh_some, b_X12_drawn_18, zb_0]
        by_cases g2 : 1 ≤ n ∧ n ≤ 200
        · rw [if_pos g2, b_X12_drawn_21, c_within, qB_some, psh_some, b_X12_drawn_29, zb_0, if_neg (by omega), b_X12_drawn_32]
        · rw [if_neg g2, b_X12_drawn_32]
      · rw [if_neg g1, b_X12_drawn_32]
end DT
