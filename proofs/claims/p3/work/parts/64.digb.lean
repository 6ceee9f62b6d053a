/-! DIG: both answer, and alike (the loops) -/
section DJ2
variable {L : Nat} {xs : Nat → Int} {d : Nat} {v : Nat → Nat → Int} {c : Nat → Nat → Nat → Int} {P : Nat}
theorem lp_hrow {S y i : Nat} {B : Nat → Nat → Int} (e w : Int) (h : WOK v S P) (hy : 2 * y + 1 < P) (hi : i < P) (hA : ∀ s t, s < P → t < P → 0 ≤ v 35 (60 * s + t) ∧ v 35 (60 * s + t) ≤ 9999) (hB : B = whB (fun s t => v 35 (60 * s + t)) (2 * y) (2 * y + 1)) : ∀ (n j : Nat), j + n = P → qG L xs (d + 2) CX10_widestWithHole 22 [(2, 29), (0, (y : Int)), (0, e), (0, mxF (B i) w j), (0, (i : Int)), (0, (j : Int))] [] (qS v) = qG L xs (d + 2) CX10_widestWithHole 53 [(2, 29), (0, (y : Int)), (0, e), (0, mxF (B i) w P), (0, (i : Int)), (0, (P : Int))] [] (qS v)
  | 0, j, hj => by
    have h9 := h.2.2.1
    rw [b_X10_widestWithHole_22, if_neg (by omega), show j = P by omega]
  | n + 1, j, hj => by
    have h9 := h.2.2.1
    have hP := h.2.2.2.1
    have h3 := lp_hrow e w h hy hi hA hB n (j + 1) (by omega)
    rw [show ((j + 1 : Nat) : Int) = (j : Int) + 1 by omega] at h3
    refine Eq.trans ?_ h3
    have e2 : w32 (2 * (y : Int)) = ((2 * y : Nat) : Int) := by
      rw [w32_id (by omega) (by omega)]; omega
    rw [b_X10_widestWithHole_22, if_pos (by omega), b_X10_widestWithHole_31, e2, c_withHole h hy hi (by omega) hA, ← hB, qB_some, psh_some, b_X10_widestWithHole_43, w32_id (by omega) (by omega)]
    rfl
theorem lp_hall {S y : Nat} {B : Nat → Nat → Int} (e : Int) (he : e ≤ 9999) (h : WOK v S P) (hy : 2 * y + 1 < P) (hA : ∀ s t, s < P → t < P → 0 ≤ v 35 (60 * s + t) ∧ v 35 (60 * s + t) ≤ 9999) (hB : B = whB (fun s t => v 35 (60 * s + t)) (2 * y) (2 * y + 1)) (hB9 : ∀ s t, s < P → t < P → B s t ≤ 9999) : ∀ (n i : Nat) (u5 : pm_V), i + n = P → ∃ r, qG L xs (d + 2) CX10_widestWithHole 5 [(2, 29), (0, (y : Int)), (0, e), (0, mxA B P i), (0, (i : Int)), u5] [] (qS v) = some (some (0, r), qS v) ∧ (mxA B P P < e → r = mxA B P P) ∧ (¬ mxA B P P < e → e ≤ r)
  | 0, i, u5, hi => by
    have h9 := h.2.2.1
    have hi2 : i = P := by omega
    subst hi2
    have hm := mxA_le (P := i) (z := 9999) (by decide) hB9 i (Nat.le_refl i)
    refine ⟨mxA B i i, ?_, fun _ => rfl, fun q => by omega⟩
    rw [b_X10_widestWithHole_5, if_neg (by omega), b_X10_widestWithHole_59, show pm_min (mxA B i i) 9999 = mxA B i i from if_neg (by omega)]
  | n + 1, i, u5, hi => by
    have h9 := h.2.2.1
    have hm := mxA_le (P := P) (z := 9999) (by decide) hB9 i (by omega)
    by_cases g : mxA B P i < e
    · obtain ⟨r, e1, e2, e3⟩ := lp_hall e he h hy hA hB hB9 n (i + 1) (0, (P : Int)) (by omega)
      have l := lp_hrow (L := L) (xs := xs) (d := d) (i := i) e (mxA B P i) h hy (by omega) hA hB P 0 (by omega)
      refine ⟨r, ?_, e2, e3⟩
      rw [show ((i + 1 : Nat) : Int) = (i : Int) + 1 by omega] at e1
      refine Eq.trans ?_ e1
      rw [b_X10_widestWithHole_5, if_pos (by omega), b_X10_widestWithHole_14, if_pos g, b_X10_widestWithHole_19]
      refine Eq.trans l ?_
      rw [b_X10_widestWithHole_53, w32_id (by omega) (by have := h.2.2.2.1; omega)]
      rfl
    · have hmo := mxA_mono (P := P) (z := 9999) (by decide) hB9 (n + 1) i hi
      refine ⟨mxA B P i, ?_, fun q => by omega, fun _ => by omega⟩
      rw [b_X10_widestWithHole_5, if_pos (by omega), b_X10_widestWithHole_14, if_neg g, b_X10_widestWithHole_59, show pm_min (mxA B P i) 9999 = mxA B P i from if_neg (by omega)]
theorem c_widestWithHole {S y : Nat} {B : Nat → Nat → Int} (e : Int) (he : e ≤ 9999) (h : WOK v S P) (hy : 2 * y + 1 < P) (hA : ∀ s t, s < P → t < P → 0 ≤ v 35 (60 * s + t) ∧ v 35 (60 * s + t) ≤ 9999) (hB : B = whB (fun s t => v 35 (60 * s + t)) (2 * y) (2 * y + 1)) (hB9 : ∀ s t, s < P → t < P → B s t ≤ 9999) : ∃ r, qE L xs (d + 3) nX10_widestWithHole [(2, 29), (0, (y : Int)), (0, e)] (qS v) = some (some (0, r), qS v) ∧ (mxA B P P < e → r = mxA B P P) ∧ (¬ mxA B P P < e → e ≤ r) := by
  obtain ⟨r, e1, e2, e3⟩ := lp_hall (L := L) (xs := xs) (d := d) e he h hy hA hB hB9 P 0 (9, 0) (by omega)
  refine ⟨r, ?_, e2, e3⟩
  rw [e_X10_widestWithHole, b_X10_widestWithHole_0]
  exact e1
/-- the best yard so far -/
def dgF (M : Nat → Int) : Nat → Int × Int
  | 0 => (0, 9999)
  | y + 1 => if M y < (dgF M y).2 then ((y : Int), M y) else dgF M y
theorem dgF_le (M : Nat → Int) : ∀ y, (dgF M y).2 ≤ 9999
  | 0 => by show (9999 : Int) ≤ 9999; omega
  | y + 1 => by
    have ih := dgF_le M y
    unfold dgF
    split
    · dsimp only
      omega
    · exact ih
theorem lp_dig {S Y : Nat} {B : Nat → Nat → Nat → Int} (w : Int) (h : WOK v S P) (hP : 2 * Y = P) (h11 : v 11 0 = (Y : Int)) (hA : ∀ s t, s < P → t < P → 0 ≤ v 35 (60 * s + t) ∧ v 35 (60 * s + t) ≤ 9999) (hB : ∀ y, B y = whB (fun s t => v 35 (60 * s + t)) (2 * y) (2 * y + 1)) (hB9 : ∀ y s t, y < Y → s < P → t < P → B y s t ≤ 9999) : ∀ (n y : Nat) (u5 : pm_V), y + n = Y → ∃ w5, qG L xs (d + 3) CX11_dig 42 [(2, 0), (0, w), (0, (dgF (fun y => mxA (B y) P P) y).1), (0, (dgF (fun y => mxA (B y) P P) y).2), (0, (y : Int)), u5] [] (qS v) = qG L xs (d + 3) CX11_dig 84 [(2, 0), (0, w), (0, (dgF (fun y => mxA (B y) P P) Y).1), (0, (dgF (fun y => mxA (B y) P P) Y).2), (0, (Y : Int)), w5] [] (qS v)
  | 0, y, u5, hy => by
    have hy2 : y = Y := by omega
    subst hy2
    refine ⟨u5, ?_⟩
    rw [b_X11_dig_42, c_yardsNow, qB_some, psh_some, b_X11_dig_51, if_neg (by omega)]
  | n + 1, y, u5, hy => by
    have hP2 := h.2.2.2.1
    obtain ⟨r, e1, e2, e3⟩ := c_widestWithHole (L := L) (xs := xs) (d := d) (y := y) (B := B y) (dgF (fun y => mxA (B y) P P) y).2 (dgF_le _ y) h (by omega) hA (hB y) (fun s t hs ht => hB9 y s t (by omega) hs ht)
    obtain ⟨w5, e4⟩ := lp_dig w h hP h11 hA hB hB9 n (y + 1) (0, r) (by omega)
    refine ⟨w5, ?_⟩
    refine Eq.trans ?_ e4
    rw [show ((y + 1 : Nat) : Int) = (y : Int) + 1 by omega, b_X11_dig_42, c_yardsNow, qB_some, psh_some, b_X11_dig_51, if_pos (by omega), b_X11_dig_54, e1, qB_some, psh_some, b_X11_dig_64]
    by_cases g : mxA (B y) P P < (dgF (fun y => mxA (B y) P P) y).2
    · have e : dgF (fun y => mxA (B y) P P) (y + 1) = ((y : Int), mxA (B y) P P) := if_pos g
      rw [e, e2 g, if_pos g, b_X11_dig_72, b_X11_dig_78, w32_id (by omega) (by omega)]
    · have e : dgF (fun y => mxA (B y) P P) (y + 1) = dgF (fun y => mxA (B y) P P) y := if_neg g
      have := e3 g
      rw [e, if_neg (by omega), b_X11_dig_78, w32_id (by omega) (by omega)]
theorem lp_mdig {Y : Nat} {M : Nat → Int} {B : Nat → Nat → Nat → Int} (w : Int) (hP : 2 * Y = P) (hW : WW v) (hC : CW v) (hN : LN L xs v c) (h11 : v 11 0 = (Y : Int)) (h6 : v 63 23 = -1) (h7 : v 63 24 = -1) (hB : ∀ y s t, y < Y → s < P → t < P → Lst (SG v c (y : Int) (-1) (-1)) s t 9999 (B y s t)) (hM : ∀ y, M y = mxA (B y) P P) (hM9 : ∀ y, y < Y → M y ≤ 9999) : ∀ (n y : Nat) (u : Nat → Nat → Int) (x2 x3 : Int) (u5 : pm_V), y + n = Y → fN v u → u 63 23 = -1 → u 63 24 = -1 → ((y = 0 ∧ x2 = -1 ∧ x3 = 0) ∨ (0 < y ∧ x2 = (dgF M y).1 ∧ x3 = (dgF M y).2 ∧ 0 ≤ x2)) → ∃ u' w5, qG L xs (d + 94) CX12_dig 19 [(2, 63), (0, w), (0, x2), (0, x3), (0, (y : Int)), u5] [] (qS u) = qG L xs (d + 94) CX12_dig 79 [(2, 63), (0, w), (0, (dgF M Y).1), (0, (dgF M Y).2), (0, (Y : Int)), w5] [] (qS u') ∧ fN v u' ∧ u' 63 23 = -1 ∧ u' 63 24 = -1
  | 0, y, u, x2, x3, u5, hy, hu, h6', h7', hx => by
    have hy2 : y = Y := by omega
    subst hy2
    have q1 := hW.1
    refine ⟨u, u5, ?_, hu, h6', h7'⟩
    have k1 := hC.1.1
    rw [b_X12_dig_19, c_yardMany, qB_some, psh_some, b_X12_dig_25, fN_c hu (c := 64) (by omega), if_neg (by omega)]
    rcases hx with ⟨h0, -⟩ | ⟨-, e2, e3, -⟩
    · omega
    · rw [e2, e3]
  | n + 1, y, u, x2, x3, u5, hy, hu, h6', h7', hx => by
    have hW0 := hW
    obtain ⟨q1, -⟩ := hW0
    have k1 := hC.1.1
    obtain ⟨p, hp⟩ : ∃ p, p = pm_up u 63 22 (y : Int) := ⟨_, rfl⟩
    have fp : fN v p := by
      refine fN_t hu ⟨fun c hc => ?_, fun j hj => ?_⟩
      · rw [hp, up_cell (by omega)]
      · rw [hp, up_ne (by omega)]
    obtain ⟨v1, r, f1, f2, f3⟩ := m_widestNow (L := L) (xs := xs) (d := d + 1) (v := p) (c := c) (P := P) (A := B y) (al := (y : Int)) (by rw [WW_N fp]; exact hW) (by rw [CW_N fp]; exact hC) (LN_N hN fp) (by rw [hp, up_eq]) (by rw [hp, up_ne (by omega)]; exact h6') (by rw [hp, up_ne (by omega)]; exact h7') (by rw [fN_c fp (c := 11) (by omega)]; omega) (by rw [fN_c fp (c := 11) (by omega)]; omega) (by rw [SG_N fp]; exact fun s t hs ht => hB y s t (by omega) hs ht)
    rw [← hM y] at f3
    have hM9y := hM9 y (by omega)
    have n1 : fN v v1 := fN_t fp f2.1
    have h6'' : v1 63 23 = -1 := by rw [f2.2.2.1, hp, up_ne (by omega)]; exact h6'
    have h7'' : v1 63 24 = -1 := by rw [f2.2.2.2, hp, up_ne (by omega)]; exact h7'
    have hr : (if r < 1000000 then r else 9999) = M y := by
      rcases f3 with ⟨z1, z2, z3⟩ | ⟨z1, z2⟩
      · rw [if_pos (by omega)]; exact z3
      · rw [if_neg (by omega)]; exact z1.symm
    have a1 : qG L xs (d + 94) CX12_dig 19 [(2, 63), (0, w), (0, x2), (0, x3), (0, (y : Int)), u5] [] (qS u) = (if x2 < 0 then qG L xs (d + 94) CX12_dig 67 [(2, 63), (0, w), (0, x2), (0, x3), (0, (y : Int)), (0, M y)] [] (qS v1) else qG L xs (d + 94) CX12_dig 61 [(2, 63), (0, w), (0, x2), (0, x3), (0, (y : Int)), (0, M y)] [] (qS v1)) := by
      rw [b_X12_dig_19, c_yardMany, qB_some, psh_some, b_X12_dig_25, fN_c hu (c := 64) (by omega), if_pos (by omega), b_X12_dig_28, ← hp, b_X12_dig_34, f1, qB_some, psh_some, b_X12_dig_38, ← hr]
      by_cases z : r < 1000000
      · rw [if_pos z, if_pos z, b_X12_dig_47, b_X12_dig_55]
      · rw [if_neg z, if_neg z, b_X12_dig_52, b_X12_dig_55]
    have hd9 := dgF_le M y
    have e1 : dgF M (y + 1) = if M y < (dgF M y).2 then ((y : Int), M y) else dgF M y := rfl
    rcases hx with ⟨h0, e2, e3⟩ | ⟨h0, e2, e3, e4⟩
    · have e5 : (dgF M (y + 1)).1 = (y : Int) ∧ (dgF M (y + 1)).2 = M y := by
        subst h0
        rw [e1]
        have e6 : dgF M 0 = (0, 9999) := rfl
        rw [e6]
        by_cases z : M 0 < 9999
        · rw [if_pos z]; exact ⟨rfl, rfl⟩
        · rw [if_neg z]; exact ⟨rfl, by show (9999 : Int) = M 0; omega⟩
      obtain ⟨u', w5, g1, g2⟩ := lp_mdig w hP hW hC hN h11 h6 h7 hB hM hM9 n (y + 1) v1 (y : Int) (M y) (0, M y) (by omega) n1 h6'' h7'' (Or.inr ⟨by omega, e5.1.symm, e5.2.symm, by omega⟩)
      refine ⟨u', w5, ?_, g2⟩
      refine Eq.trans ?_ g1
      rw [a1, if_pos (by omega), b_X12_dig_67, b_X12_dig_73, w32_id (by omega) (by omega)]
      rfl
    · by_cases z : M y < x3
      · have e5 : dgF M (y + 1) = ((y : Int), M y) := by rw [e1, if_pos (by omega)]
        obtain ⟨u', w5, g1, g2⟩ := lp_mdig w hP hW hC hN h11 h6 h7 hB hM hM9 n (y + 1) v1 (y : Int) (M y) (0, M y) (by omega) n1 h6'' h7'' (Or.inr ⟨by omega, by rw [e5], by rw [e5], by omega⟩)
        refine ⟨u', w5, ?_, g2⟩
        refine Eq.trans ?_ g1
        rw [a1, if_neg (by omega), b_X12_dig_61, if_pos z, b_X12_dig_67, b_X12_dig_73, w32_id (by omega) (by omega)]
        rfl
      · have e5 : dgF M (y + 1) = dgF M y := by rw [e1, if_neg (by omega)]
        obtain ⟨u', w5, g1, g2⟩ := lp_mdig w hP hW hC hN h11 h6 h7 hB hM hM9 n (y + 1) v1 x2 x3 (0, M y) (by omega) n1 h6'' h7'' (Or.inr ⟨by omega, by rw [e5]; exact e2, by rw [e5]; exact e3, e4⟩)
        refine ⟨u', w5, ?_, g2⟩
        refine Eq.trans ?_ g1
        rw [a1, if_neg (by omega), b_X12_dig_61, if_neg z, b_X12_dig_73, w32_id (by omega) (by omega)]
        rfl
theorem op_dig (hz : Wz L xs v c) (w : Int) : opW L xs d v nX11_dig nX12_dig [(0, w)] := by
  have hz0 := hz
  obtain ⟨hW, hC, hM, hN, h5, h6, h7⟩ := hz
  have hW0 := hW
  obtain ⟨q1, -⟩ := hW0
  obtain ⟨Y, hY⟩ : ∃ Y : Nat, v 11 0 = (Y : Int) := ⟨(v 11 0).toNat, by omega⟩
  have hP : 2 * v 11 0 = ((2 * Y : Nat) : Int) := by omega
  by_cases g : 0 ≤ w ∧ w ≤ 1
  · obtain ⟨v1, S, e1, e2, e3⟩ := c_lay (L := L) (xs := xs) (d := d + 89) hW hP hM
    obtain ⟨v2, e4, e5, e6⟩ := c_all (L := L) (xs := xs) (d := d + 95) e3.1 (EC_all hW e3)
    have f2 : fW v v2 := fW_t e2 (fW_own (fun c hc => e5 c (by omega) (by omega)))
    obtain ⟨hW2, hC2, hM2, hN2, h52, h62, h72⟩ := Wz_W f2 hz0
    have hK : WOK v2 S (2 * Y) := by
      unfold WOK
      rw [e5 29 (by decide) (by decide), e5 30 (by decide) (by decide), e5 31 (by decide) (by decide), e5 32 (by decide) (by decide)]
      exact e3.1
    have hT : Okg (SG v c (-1) (-1) (-1)) (2 * Y) 99 := SG_ok hW hM.1 hP (by omega)
    have hA : ∀ s t, s < 2 * Y → t < 2 * Y → 0 ≤ v2 35 (60 * s + t) ∧ v2 35 (60 * s + t) ≤ 9999 := fun s t hs ht => by
      rcases e6 s t hs ht with ⟨z1, z2, -⟩ | ⟨z1, -⟩
      · omega
      · omega
    have h11 : v2 11 0 = (Y : Int) := by rw [fW_c f2 (c := 11) (by omega)]; exact hY
    have hB : ∀ y s t, y < Y → s < 2 * Y → t < 2 * Y → Lst (SG v c (y : Int) (-1) (-1)) s t 9999 (whB (fun s t => v2 35 (60 * s + t)) (2 * y) (2 * y + 1) s t) := fun y s t hy hs ht => whB_Lst (P := 2 * Y) (by omega) hT (by omega) (by omega) hs ht e6 (fun a b k => by
      unfold SG thr
      rw [Int.toNat_natCast]
      constructor
      · rintro (z | z | ⟨z1, z2, z3⟩ | z | z)
        · exact Or.inl (Or.inl z)
        · exact Or.inl (Or.inr (Or.inl z))
        · exact Or.inr ⟨z2, z3⟩
        · exact Or.inl (Or.inr (Or.inr (Or.inr (Or.inl z))))
        · exact Or.inl (Or.inr (Or.inr (Or.inr (Or.inr z))))
      · rintro ((z | z | ⟨z1, z2, z3⟩ | z | z) | ⟨z2, z3⟩)
        · exact Or.inl z
        · exact Or.inr (Or.inl z)
        · omega
        · exact Or.inr (Or.inr (Or.inr (Or.inl z)))
        · exact Or.inr (Or.inr (Or.inr (Or.inr z)))
        · exact Or.inr (Or.inr (Or.inl ⟨by omega, z2, z3⟩)))
    have hB9 : ∀ y s t, y < Y → s < 2 * Y → t < 2 * Y → whB (fun s t => v2 35 (60 * s + t)) (2 * y) (2 * y + 1) s t ≤ 9999 := fun y s t hy hs ht => by
      rcases hB y s t hy hs ht with ⟨z1, z2, -⟩ | ⟨z1, -⟩
      · omega
      · omega
    obtain ⟨B, hBd⟩ : ∃ B : Nat → Nat → Nat → Int, ∀ y, B y = whB (fun s t => v2 35 (60 * s + t)) (2 * y) (2 * y + 1) := ⟨fun y => whB (fun s t => v2 35 (60 * s + t)) (2 * y) (2 * y + 1), fun _ => rfl⟩
    obtain ⟨w5, l1⟩ := lp_dig (L := L) (xs := xs) (d := d + 96) (v := v2) (P := 2 * Y) (B := B) w hK rfl h11 hA hBd (fun y s t hy hs ht => by rw [hBd]; exact hB9 y s t hy hs ht) Y 0 (9, 0) (by omega)
    obtain ⟨u', x5, l2, l3, l4, l5⟩ := lp_mdig (L := L) (xs := xs) (d := d + 5) (v := v2) (c := c) (P := 2 * Y) (B := B) (M := fun y => mxA (B y) (2 * Y) (2 * Y)) w rfl hW2 hC2 hN2 h11 h62 h72 (fun y s t hy hs ht => by rw [hBd, SG_W f2]; exact hB y s t hy hs ht) (fun _ => rfl) (fun y hy => (mxA_le (P := 2 * Y) (z := 9999) (by decide) (fun s t hs ht => by rw [hBd]; exact hB9 y s t hy hs ht) (2 * Y) (Nat.le_refl _)).2) Y 0 v2 (-1) 0 (9, 0) (by omega) (fN_r v2) h62 h72 (Or.inl ⟨rfl, rfl, rfl⟩)
    refine ⟨if w = 0 then (dgF (fun y => mxA (B y) (2 * Y) (2 * Y)) Y).1 else (dgF (fun y => mxA (B y) (2 * Y) (2 * Y)) Y).2, v2, pm_up u' 63 22 (-1), ?_, f2, ?_, ⟨fN_t l3 ⟨fun c hc => by rw [up_cell (by omega)], fun k hk => by rw [up_ne (by omega)]⟩, ?_, ?_, ?_⟩⟩
    · rw [e_X11_dig, b_X11_dig_0, if_neg (by omega), b_X11_dig_4, if_neg (by omega), b_X11_dig_11, e1, qB_some, psh_none, b_X11_dig_26, e4, qB_some, psh_none, b_X11_dig_33]
      refine Eq.trans l1 ?_
      rw [b_X11_dig_84]
      by_cases z : w = 0
      · rw [if_pos z, if_pos z, b_X11_dig_88, b_X11_dig_93]
      · rw [if_neg z, if_neg z, b_X11_dig_92, b_X11_dig_93]
    · rw [e_X12_dig, b_X12_dig_0, c_within, qB_some, psh_some, b_X12_dig_7, zb_0, if_pos g, b_X12_dig_12]
      refine Eq.trans l2 ?_
      rw [b_X12_dig_79, b_X12_dig_84]
      by_cases z : w = 0
      · rw [if_pos z, if_pos z, b_X12_dig_88, b_X12_dig_93]
      · rw [if_neg z, if_neg z, b_X12_dig_92, b_X12_dig_93]
    · rw [up_eq, h52]
    · rw [up_ne (by omega), l4, h62]
    · rw [up_ne (by omega), l5, h72]
  · refine opW_no (r := -1) ?_ ?_
    · rw [e_X11_dig, b_X11_dig_0]
      by_cases g1 : w < 0
      · rw [if_pos g1, b_X11_dig_9]
      · rw [if_neg g1, b_X11_dig_4, if_pos (by omega), b_X11_dig_9]
    · rw [e_X12_dig, b_X12_dig_0, c_within, qB_some, psh_some, b_X12_dig_7, zb_0, if_neg g, b_X12_dig_10]
end DJ2
