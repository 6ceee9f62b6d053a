/-! WHENCE: both answer, and alike -/
section WH
variable {L : Nat} {xs : Nat → Int} {d : Nat} {v : Nat → Nat → Int} {P : Nat}
/-- how many, and the first -/
def wcF (D : Nat → Int) (ap : Int) : Nat → Int × Int
  | 0 => (0, -2)
  | p + 1 => if D p = ap then ((wcF D ap p).1 + 1, if (wcF D ap p).1 = 0 then (p : Int) else (wcF D ap p).2) else wcF D ap p
theorem wcF_in (D : Nat → Int) (ap : Int) : ∀ p : Nat, 0 ≤ (wcF D ap p).1 ∧ (wcF D ap p).1 ≤ (p : Int)
  | 0 => ⟨by show (0 : Int) ≤ 0; omega, by show (0 : Int) ≤ ((0 : Nat) : Int); omega⟩
  | p + 1 => by
    have ih := wcF_in D ap p
    unfold wcF
    split
    · dsimp only
      omega
    · omega
theorem lp_whence {Y a b : Nat} (y mn w ap : Int) (hW : WN v) (hY : v 11 0 = (Y : Int)) (ha : a < 2 * Y) (hb : b < 2 * Y) (y1 : w32 (Int.tdiv y 100) = (a : Int)) (y2 : Int.tmod y 100 = (b : Int)) : ∀ (n p : Nat), p + n = 2 * Y → qG L xs (d + 4) CX11_whence 51 [(2, 0), (0, y), (0, mn), (0, w), (0, ap), (0, (wcF (fun p => hN (v 3) (v 12 0) Y p a - hN (v 3) (v 12 0) Y p b) ap p).2), (0, (wcF (fun p => hN (v 3) (v 12 0) Y p a - hN (v 3) (v 12 0) Y p b) ap p).1), (0, (p : Int))] [] (qS v) = qG L xs (d + 4) CX11_whence 118 [(2, 0), (0, y), (0, mn), (0, w), (0, ap), (0, (wcF (fun p => hN (v 3) (v 12 0) Y p a - hN (v 3) (v 12 0) Y p b) ap (2 * Y)).2), (0, (wcF (fun p => hN (v 3) (v 12 0) Y p a - hN (v 3) (v 12 0) Y p b) ap (2 * Y)).1), (0, ((2 * Y : Nat) : Int))] [] (qS v)
  | 0, p, hp => by
    have q1 := hW.1
    rw [b_X11_whence_51, c_placesNow (by omega) (by omega), qB_some, psh_some, b_X11_whence_60, if_neg (by omega), show p = 2 * Y by omega]
  | n + 1, p, hp => by
    obtain ⟨q1, q2, q3⟩ := hW
    have ih := lp_whence y mn w ap ⟨q1, q2, q3⟩ hY ha hb y1 y2 n (p + 1) (by omega)
    have i1 := hN_in (th := v 3) (tl := v 12 0) (Y := Y) (a := p) (b := a) (by omega) (fun y hy => q2 y (by omega)) q3 (by omega) ha
    have i2 := hN_in (th := v 3) (tl := v 12 0) (Y := Y) (a := p) (b := b) (by omega) (fun y hy => q2 y (by omega)) q3 (by omega) hb
    have e : wcF (fun p => hN (v 3) (v 12 0) Y p a - hN (v 3) (v 12 0) Y p b) ap (p + 1) = if hN (v 3) (v 12 0) Y p a - hN (v 3) (v 12 0) Y p b = ap then ((wcF (fun p => hN (v 3) (v 12 0) Y p a - hN (v 3) (v 12 0) Y p b) ap p).1 + 1, if (wcF (fun p => hN (v 3) (v 12 0) Y p a - hN (v 3) (v 12 0) Y p b) ap p).1 = 0 then (p : Int) else (wcF (fun p => hN (v 3) (v 12 0) Y p a - hN (v 3) (v 12 0) Y p b) ap p).2) else wcF (fun p => hN (v 3) (v 12 0) Y p a - hN (v 3) (v 12 0) Y p b) ap p := rfl
    have hc := wcF_in (fun p => hN (v 3) (v 12 0) Y p a - hN (v 3) (v 12 0) Y p b) ap p
    refine Eq.trans ?_ ih
    rw [e, b_X11_whence_51, c_placesNow (by omega) (by omega), qB_some, psh_some, b_X11_whence_60, if_pos (by omega), b_X11_whence_63, y1, c_hearing ⟨q1, q2, q3⟩ hY (by omega) ha, qB_some, psh_some, b_X11_whence_76, y2, c_hearing ⟨q1, q2, q3⟩ hY (by omega) hb, qB_some, psh_some, b_X11_whence_89, w32_id (z := hN (v 3) (v 12 0) Y p a - hN (v 3) (v 12 0) Y p b) (by omega) (by omega)]
    generalize wcF (fun p => hN (v 3) (v 12 0) Y p a - hN (v 3) (v 12 0) Y p b) ap p = W at hc ⊢
    by_cases g : hN (v 3) (v 12 0) Y p a - hN (v 3) (v 12 0) Y p b = ap
    · rw [if_pos g, if_pos g, b_X11_whence_95]
      dsimp only
      by_cases g2 : W.1 = 0
      · rw [if_pos g2, if_pos g2, b_X11_whence_100, b_X11_whence_107, w32_id (by omega) (by omega), b_X11_whence_112, w32_id (by omega) (by omega)]
        rfl
      · rw [if_neg g2, if_neg g2, b_X11_whence_105, b_X11_whence_107, w32_id (by omega) (by omega), b_X11_whence_112, w32_id (by omega) (by omega)]
        rfl
    · rw [if_neg g, if_neg g, b_X11_whence_112, w32_id (by omega) (by omega)]
      rfl
theorem lp_mwhence {Y a b : Nat} (y mn w ap : Int) (hW : WN v) (hC : v 64 140 = v 11 0) (hY : v 11 0 = (Y : Int)) (ha : a < 2 * Y) (hb : b < 2 * Y) (y1 : w32 (Int.tdiv y 100) = (a : Int)) (y2 : Int.tmod y 100 = (b : Int)) (hap : w32 (w32 (Int.tdiv mn 100) - Int.tmod mn 100) = ap) : ∀ (n p : Nat) (u : Nat → Nat → Int), p + n = 2 * Y → u 64 140 = (Y : Int) → MH u (nT (v 3) (v 12 0) Y) → ∃ u', qG L xs (d + 2) CX12_whence 46 [(2, 63), (0, y), (0, mn), (0, w), (0, (wcF (fun p => hN (v 3) (v 12 0) Y p a - hN (v 3) (v 12 0) Y p b) ap p).1), (0, (wcF (fun p => hN (v 3) (v 12 0) Y p a - hN (v 3) (v 12 0) Y p b) ap p).2), (0, (p : Int))] [] (qS u) = qG L xs (d + 2) CX12_whence 117 [(2, 63), (0, y), (0, mn), (0, w), (0, (wcF (fun p => hN (v 3) (v 12 0) Y p a - hN (v 3) (v 12 0) Y p b) ap (2 * Y)).1), (0, (wcF (fun p => hN (v 3) (v 12 0) Y p a - hN (v 3) (v 12 0) Y p b) ap (2 * Y)).2), (0, ((2 * Y : Nat) : Int))] [] (qS u') ∧ ∀ c, c ≠ 75 → c ≠ 76 → u' c = u c
  | 0, p, u, hp, h64, hM => by
    have q1 := hW.1
    refine ⟨u, ?_, fun _ _ _ => rfl⟩
    rw [b_X12_whence_46, c_yardMany, qB_some, psh_some, b_X12_whence_53, w32_id (by omega) (by omega), if_neg (by omega), show p = 2 * Y by omega]
  | n + 1, p, u, hp, h64, hM => by
    obtain ⟨q1, q2, q3⟩ := hW
    obtain ⟨u1, e1, e2, e3⟩ := m_nfrom (L := L) (xs := xs) (d := d) (s := p) ⟨q1, q2, q3⟩ hY h64 hM (by omega)
    obtain ⟨u', ih, e4⟩ := lp_mwhence y mn w ap ⟨q1, q2, q3⟩ hC hY ha hb y1 y2 hap n (p + 1) u1 (by omega) (by rw [e2 64 (by decide) (by decide)]; exact h64) (MH_cg (e2 74 (by decide) (by decide)) hM)
    refine ⟨u', ?_, fun c h1 h2 => (e4 c h1 h2).trans (e2 c h1 h2)⟩
    have i1 := hN_in (th := v 3) (tl := v 12 0) (Y := Y) (a := p) (b := a) (by omega) (fun y hy => q2 y (by omega)) q3 (by omega) ha
    have i2 := hN_in (th := v 3) (tl := v 12 0) (Y := Y) (a := p) (b := b) (by omega) (fun y hy => q2 y (by omega)) q3 (by omega) hb
    have e : wcF (fun p => hN (v 3) (v 12 0) Y p a - hN (v 3) (v 12 0) Y p b) ap (p + 1) = if hN (v 3) (v 12 0) Y p a - hN (v 3) (v 12 0) Y p b = ap then ((wcF (fun p => hN (v 3) (v 12 0) Y p a - hN (v 3) (v 12 0) Y p b) ap p).1 + 1, if (wcF (fun p => hN (v 3) (v 12 0) Y p a - hN (v 3) (v 12 0) Y p b) ap p).1 = 0 then (p : Int) else (wcF (fun p => hN (v 3) (v 12 0) Y p a - hN (v 3) (v 12 0) Y p b) ap p).2) else wcF (fun p => hN (v 3) (v 12 0) Y p a - hN (v 3) (v 12 0) Y p b) ap p := rfl
    have hc := wcF_in (fun p => hN (v 3) (v 12 0) Y p a - hN (v 3) (v 12 0) Y p b) ap p
    have r1 := e3 a ha
    have r2 := e3 b hb
    have a1 : qG L xs (d + 2) CX12_whence 46 [(2, 63), (0, y), (0, mn), (0, w), (0, (wcF (fun p => hN (v 3) (v 12 0) Y p a - hN (v 3) (v 12 0) Y p b) ap p).1), (0, (wcF (fun p => hN (v 3) (v 12 0) Y p a - hN (v 3) (v 12 0) Y p b) ap p).2), (0, (p : Int))] [] (qS u) = (if hN (v 3) (v 12 0) Y p a - hN (v 3) (v 12 0) Y p b = ap then qG L xs (d + 2) CX12_whence 94 [(2, 63), (0, y), (0, mn), (0, w), (0, (wcF (fun p => hN (v 3) (v 12 0) Y p a - hN (v 3) (v 12 0) Y p b) ap p).1), (0, (wcF (fun p => hN (v 3) (v 12 0) Y p a - hN (v 3) (v 12 0) Y p b) ap p).2), (0, (p : Int))] [] (qS u1) else qG L xs (d + 2) CX12_whence 111 [(2, 63), (0, y), (0, mn), (0, w), (0, (wcF (fun p => hN (v 3) (v 12 0) Y p a - hN (v 3) (v 12 0) Y p b) ap p).1), (0, (wcF (fun p => hN (v 3) (v 12 0) Y p a - hN (v 3) (v 12 0) Y p b) ap p).2), (0, (p : Int))] [] (qS u1)) := by
      rw [b_X12_whence_46, c_yardMany, qB_some, psh_some, b_X12_whence_53, w32_id (by omega) (by omega), if_pos (by omega), b_X12_whence_57, e1, qB_some, psh_none, b_X12_whence_63, y1, if_pos (by omega), Int.toNat_natCast, r1, b_X12_whence_72, y2, if_pos (by omega), Int.toNat_natCast, r2, b_X12_whence_81, hap, w32_id (by omega) (by omega)]
    refine Eq.trans ?_ ih
    rw [a1, e]
    generalize wcF (fun p => hN (v 3) (v 12 0) Y p a - hN (v 3) (v 12 0) Y p b) ap p = W at hc ⊢
    by_cases g : hN (v 3) (v 12 0) Y p a - hN (v 3) (v 12 0) Y p b = ap
    · rw [if_pos g, if_pos g, b_X12_whence_94]
      dsimp only
      by_cases g2 : W.1 = 0
      · rw [if_pos g2, if_pos g2, b_X12_whence_99, b_X12_whence_106, w32_id (by omega) (by omega), b_X12_whence_111, w32_id (by omega) (by omega)]
        rfl
      · rw [if_neg g2, if_neg g2, b_X12_whence_104, b_X12_whence_106, w32_id (by omega) (by omega), b_X12_whence_111, w32_id (by omega) (by omega)]
        rfl
    · rw [if_neg g, if_neg g, b_X12_whence_111, w32_id (by omega) (by omega)]
      rfl
theorem op_whence (hW : WN v) (hC : CN v) (y mn w : Int) (hy : y < 2147483648) : opW L xs d v nX11_whence nX12_whence [(0, y), (0, mn), (0, w)] := by
  have hW0 := hW
  obtain ⟨q1, q2, q3⟩ := hW0
  have k1 := hC.1
  obtain ⟨Y, hY⟩ : ∃ Y : Nat, v 11 0 = (Y : Int) := ⟨(v 11 0).toNat, by omega⟩
  by_cases g : (0 ≤ y ∧ y / 100 < 2 * v 11 0 ∧ y % 100 < 2 * v 11 0) ∧ (0 ≤ mn ∧ mn ≤ 9999) ∧ 0 ≤ w ∧ w ≤ 1
  · obtain ⟨a, ha⟩ : ∃ a : Nat, y / 100 = (a : Int) := ⟨(y / 100).toNat, by omega⟩
    obtain ⟨b, hb⟩ : ∃ b : Nat, y % 100 = (b : Int) := ⟨(y % 100).toNat, by omega⟩
    have y1 : w32 (Int.tdiv y 100) = (a : Int) := by rw [td_pos 100 (by omega), w32_id (by omega) (by omega), ha]
    have y2 : Int.tmod y 100 = (b : Int) := by rw [tm_pos 100 (by omega), hb]
    obtain ⟨ap, hap⟩ : ∃ ap, w32 (w32 (Int.tdiv mn 100) - Int.tmod mn 100) = ap := ⟨_, rfl⟩
    obtain ⟨v1, e1, e2, e3⟩ := m_asksNews (L := L) (xs := xs) (d := d + 95) hW hC hY
    have h64 : v1 64 140 = (Y : Int) := by rw [e2 64 (by decide)]; omega
    have l1 := lp_whence (L := L) (xs := xs) (d := d + 95) (v := v) y mn w ap hW hY (a := a) (b := b) (by omega) (by omega) y1 y2 (2 * Y) 0 (by omega)
    obtain ⟨v2, l2, e5⟩ := lp_mwhence (L := L) (xs := xs) (d := d + 97) (v := v) y mn w ap hW k1 hY (a := a) (b := b) (by omega) (by omega) y1 y2 hap (2 * Y) 0 v1 (by omega) h64 e3
    refine ⟨if w = 0 then (wcF (fun p => hN (v 3) (v 12 0) Y p a - hN (v 3) (v 12 0) Y p b) ap (2 * Y)).1 else (wcF (fun p => hN (v 3) (v 12 0) Y p a - hN (v 3) (v 12 0) Y p b) ap (2 * Y)).2, v, v2, ?_, fW_r v, ?_, fP_t (fA_P (fA_74 e2)) (fP_75 e5)⟩
    · rw [e_X11_whence, b_X11_whence_0, c_arePlaces (by omega) (by omega) y hy, qB_some, psh_some, b_X11_whence_5, zb_0, if_pos g.1, b_X11_whence_8, if_neg (by omega), b_X11_whence_12, if_neg (by omega), b_X11_whence_19, if_neg (by omega), b_X11_whence_23, if_neg (by omega), b_X11_whence_30, hap]
      refine Eq.trans l1 ?_
      rw [b_X11_whence_118]
      by_cases z : w = 0
      · rw [if_pos z, if_pos z, b_X11_whence_122, b_X11_whence_129]
      · rw [if_neg z, if_neg z, b_X11_whence_127, b_X11_whence_129]
    · rw [e_X12_whence, b_X12_whence_0, m_isAb (by omega) (by omega) y hy, qB_some, psh_some, b_X12_whence_5, zb_0, if_pos (by omega), b_X12_whence_8, c_within, qB_some, psh_some, b_X12_whence_17, zb_0, if_pos g.2.1, b_X12_whence_20, c_within, qB_some, psh_some, b_X12_whence_27, zb_0, if_pos g.2.2, b_X12_whence_32, e1, qB_some, psh_none, b_X12_whence_36]
      refine Eq.trans l2 ?_
      rw [b_X12_whence_117]
      by_cases z : w = 0
      · rw [if_pos z, if_pos z, b_X12_whence_121, b_X12_whence_128]
      · rw [if_neg z, if_neg z, b_X12_whence_126, b_X12_whence_128]
  · refine opW_no (r := -1) ?_ ?_
    · rw [e_X11_whence, b_X11_whence_0, c_arePlaces (by omega) (by omega) y hy, qB_some, psh_some, b_X11_whence_5, zb_0]
      by_cases g1 : 0 ≤ y ∧ y / 100 < 2 * v 11 0 ∧ y % 100 < 2 * v 11 0
      · rw [if_pos g1, b_X11_whence_8]
        by_cases g2 : mn < 0
        · rw [if_pos g2, b_X11_whence_28]
        · rw [if_neg g2, b_X11_whence_12]
          by_cases g3 : 9999 < mn
          · rw [if_pos g3, b_X11_whence_28]
          · rw [if_neg g3, b_X11_whence_19]
            by_cases g4 : w < 0
            · rw [if_pos g4, b_X11_whence_28]
            · rw [if_neg g4, b_X11_whence_23, if_pos (by omega), b_X11_whence_28]
      · rw [if_neg g1, b_X11_whence_28]
    · rw [e_X12_whence, b_X12_whence_0, m_isAb (by omega) (by omega) y hy, qB_some, psh_some, b_X12_whence_5, zb_0, k1]
      by_cases g1 : 0 ≤ y ∧ y / 100 < 2 * v 11 0 ∧ y % 100 < 2 * v 11 0
      · rw [if_pos g1, b_X12_whence_8, c_within, qB_some, psh_some, b_X12_whence_17, zb_0]
        by_cases g2 : 0 ≤ mn ∧ mn ≤ 9999
        · rw [if_pos g2, b_X12_whence_20, c_within, qB_some, psh_some, b_X12_whence_27, zb_0, if_neg (by omega), b_X12_whence_30]
        · rw [if_neg g2, b_X12_whence_30]
      · rw [if_neg g1, b_X12_whence_30]
end WH
