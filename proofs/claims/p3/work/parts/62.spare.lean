/-! SPARE: both answer, and alike -/
section SR
variable {L : Nat} {xs : Nat → Int} {d : Nat} {v : Nat → Nat → Int} {c : Nat → Nat → Nat → Int} {P : Nat}
/-- which one, and what the way is without it -/
def spF (o D : Nat → Int) : Nat → Int × Int
  | 0 => (-2, -2)
  | k + 1 => if o k = 1 ∧ (spF o D k).2 < D k then ((k : Int), D k) else spF o D k
/-- open, of holes (t = 1) or lanes (t = 0) -/
def opn (v : Nat → Nat → Int) (t : Int) (k : Nat) : Int := if t = 0 then zb (v 8 k = 1 ∧ (0 ≤ v 16 k ∧ v 16 k < 2 * v 11 0) ∧ 0 ≤ v 17 k ∧ v 17 k < 2 * v 11 0) else zb (v 6 k = 1 ∧ 0 ≤ v 15 k ∧ v 15 k < v 11 0)
theorem opn_01 (v : Nat → Nat → Int) (t : Int) (k : Nat) : opn v t k = 0 ∨ opn v t k = 1 := by
  unfold opn
  split
  · exact zb_01 _
  · exact zb_01 _
/-- the steps without the k-th -/
def spT (v : Nat → Nat → Int) (c : Nat → Nat → Nat → Int) (t : Int) (k : Nat) : Nat → Nat → Int → Prop := SG v c (-1) (if t = 0 then -1 else (k : Int)) (if t = 0 then (k : Int) else -1)
theorem lp_spare {v0 : Nat → Nat → Int} {S a b H : Nat} {t y : Int} {D : Nat → Int} (w : Int) (ht : t = 0 ∨ t = 1) (y1 : w32 (Int.tdiv y 100) = (a : Int)) (y2 : Int.tmod y 100 = (b : Int)) (ha : a < P) (hb : b < P) (hW : WW v) (hM : LM L xs v c) (hv0 : fW v v0) (hL : LyI v0 S P (TT v c)) (hH : (if t = 0 then v 1 2 else v 1 1) = (H : Int)) (hH2 : H ≤ 12) (hD : ∀ k, k < H → Lst (spT v c t k) a b 9999 (D k)) : ∀ (n k : Nat) (u : Nat → Nat → Int) (u8 : pm_V), k + n = H → (∀ c, c ≠ 34 → u c = v0 c) → ∃ u' w8, qG L xs (d + 5) CX11_spare 79 [(2, 0), (0, y), (0, w), (0, t), (0, (H : Int)), (0, (spF (opn v t) D k).1), (0, (spF (opn v t) D k).2), (0, (k : Int)), u8] [] (qS u) = qG L xs (d + 5) CX11_spare 176 [(2, 0), (0, y), (0, w), (0, t), (0, (H : Int)), (0, (spF (opn v t) D H).1), (0, (spF (opn v t) D H).2), (0, (H : Int)), w8] [] (qS u') ∧ ∀ c, c ≠ 34 → u' c = v0 c
  | 0, k, u, u8, hk, hu => by
    have e : k = H := by omega
    subst e
    refine ⟨u, u8, ?_, hu⟩
    rw [b_X11_spare_79, if_neg (by omega)]
  | n + 1, k, u, u8, hk, hu => by
    have fu : fW v u := fW_t hv0 (fW_own (fun c hc => hu c (by omega)))
    have hWu : WW u := by rw [WW_W fu]; exact hW
    have hLu : LyI u S P (TT v c) := LyI_cg (fun c _ _ => hu c (by omega)) hL
    have a1 : qG L xs (d + 5) CX11_spare 79 [(2, 0), (0, y), (0, w), (0, t), (0, (H : Int)), (0, (spF (opn v t) D k).1), (0, (spF (opn v t) D k).2), (0, (k : Int)), u8] [] (qS u) = (if opn v t k = 0 then qG L xs (d + 5) CX11_spare 170 [(2, 0), (0, y), (0, w), (0, t), (0, (H : Int)), (0, (spF (opn v t) D k).1), (0, (spF (opn v t) D k).2), (0, (k : Int)), u8] [] (qS u) else qG L xs (d + 5) CX11_spare 117 [(2, 0), (0, y), (0, w), (0, t), (0, (H : Int)), (0, (spF (opn v t) D k).1), (0, (spF (opn v t) D k).2), (0, (k : Int)), u8] [] (qS u)) := by
      rw [b_X11_spare_79, if_pos (by omega), b_X11_spare_86]
      by_cases h0 : t = 0
      · rw [if_pos h0] at hH
        have e : opn v t k = zb (u 8 k = 1 ∧ (0 ≤ u 16 k ∧ u 16 k < 2 * u 11 0) ∧ 0 ≤ u 17 k ∧ u 17 k < 2 * u 11 0) := by
          rw [fW_c fu (c := 8) (by omega), fW_c fu (c := 16) (by omega), fW_c fu (c := 17) (by omega), fW_c fu (c := 11) (by omega)]
          exact if_pos h0
        rw [if_pos h0, b_X11_spare_105, c_isLaneOpen hWu k (by rw [fW_c fu (c := 1) (by omega)]; omega), qB_some, psh_some, b_X11_spare_114, e]
      · rw [if_neg h0] at hH
        have e : opn v t k = zb (u 6 k = 1 ∧ 0 ≤ u 15 k ∧ u 15 k < u 11 0) := by
          rw [fW_c fu (c := 6) (by omega), fW_c fu (c := 15) (by omega), fW_c fu (c := 11) (by omega)]
          exact if_neg h0
        rw [if_neg h0, b_X11_spare_90, c_isHoleOpen hWu k (by rw [fW_c fu (c := 1) (by omega)]; omega), qB_some, psh_some, b_X11_spare_99, e, b_X11_spare_102]
    by_cases g : opn v t k = 0
    · obtain ⟨u', w8, e1, e2⟩ := lp_spare w ht y1 y2 ha hb hW hM hv0 hL hH hH2 hD n (k + 1) u u8 (by omega) hu
      refine ⟨u', w8, ?_, e2⟩
      have e : spF (opn v t) D (k + 1) = spF (opn v t) D k := if_neg (by omega)
      rw [e, show ((k + 1 : Nat) : Int) = (k : Int) + 1 by omega] at e1
      refine Eq.trans ?_ e1
      rw [a1, if_pos g, b_X11_spare_170, w32_id (by omega) (by omega)]
    · have g1 : opn v t k = 1 := by
        rcases opn_01 v t k with q | q
        · exact absurd q g
        · exact q
      have hx : ∃ x : Int, -1 ≤ x ∧ EC u S x = spT v c t k ∧ qG L xs (d + 5) CX11_spare 117 [(2, 0), (0, y), (0, w), (0, t), (0, (H : Int)), (0, (spF (opn v t) D k).1), (0, (spF (opn v t) D k).2), (0, (k : Int)), u8] [] (qS u) = qG L xs (d + 5) CX11_spare 139 [(2, 0), (0, y), (0, w), (0, t), (0, (H : Int)), (0, (spF (opn v t) D k).1), (0, (spF (opn v t) D k).2), (0, (k : Int)), u8] [(0, x), (0, (a : Int)), (2, 29)] (qS u) := by
        by_cases h0 : t = 0
        · refine ⟨12 + (k : Int), by omega, ?_, ?_⟩
          · rw [EC_E hW hLu (by omega), if_neg (by omega), if_neg (by omega), show 12 + (k : Int) - 12 = (k : Int) by omega]
            unfold spT
            rw [if_pos h0, if_pos h0]
          · rw [b_X11_spare_117, if_pos h0, y1, b_X11_spare_134, w32_id (by omega) (by omega)]
        · refine ⟨(k : Int), by omega, ?_, ?_⟩
          · rw [EC_E hW hLu (by omega), if_pos (by omega), if_pos (by omega)]
            unfold spT
            rw [if_neg h0, if_neg h0]
          · rw [b_X11_spare_117, if_neg h0, y1, b_X11_spare_129]
      obtain ⟨x, -, x2, x3⟩ := hx
      obtain ⟨u1, e1, e2, e3⟩ := c_from (L := L) (xs := xs) (d := d + 2) hLu.1 x2 ha
      have hu1 : ∀ c, c ≠ 34 → u1 c = v0 c := fun c hc => (e2 c hc).trans (hu c hc)
      have hbk : u1 34 b = D k := by
        rcases Lst_one (hD k (by omega)) (e3 b hb) with ⟨-, -, q, -⟩ | ⟨q1, q2, -⟩
        · exact q
        · omega
      obtain ⟨u', w8, e4, e5⟩ := lp_spare w ht y1 y2 ha hb hW hM hv0 hL hH hH2 hD n (k + 1) u1 (0, D k) (by omega) hu1
      refine ⟨u', w8, ?_, e5⟩
      refine Eq.trans ?_ e4
      rw [show ((k + 1 : Nat) : Int) = (k : Int) + 1 by omega, a1, if_neg g, x3, b_X11_spare_139, e1, qB_some, psh_none, b_X11_spare_142, y2, c_minutes (WOK_cg e2 hLu.1) hb, qB_some, psh_some, hbk, b_X11_spare_153]
      by_cases q : (spF (opn v t) D k).2 < D k
      · have e : spF (opn v t) D (k + 1) = ((k : Int), D k) := if_pos ⟨g1, q⟩
        rw [e, if_pos q, b_X11_spare_162, b_X11_spare_170, w32_id (by omega) (by omega)]
      · have e : spF (opn v t) D (k + 1) = spF (opn v t) D k := if_neg (fun z => q z.2)
        rw [e, if_neg q, b_X11_spare_170, w32_id (by omega) (by omega)]
theorem lp_mspare {a b H : Nat} {t y w : Int} {D : Nat → Int} (hw : w < 2 ↔ t = 1) (ht : t = 0 ∨ t = 1) (y1 : w32 (Int.tdiv y 100) = (a : Int)) (y2 : Int.tmod y 100 = (b : Int)) (ha : a < P) (hb : b < P) (hP : 2 * v 11 0 = (P : Int)) (hW : WW v) (hC : CW v) (hN : LN L xs v c) (hH : (if t = 0 then v 1 2 else v 1 1) = (H : Int)) (hH2 : H ≤ 12) (hD : ∀ k, k < H → Lst (spT v c t k) a b 9999 (D k)) : ∀ (n k : Nat) (u : Nat → Nat → Int) (u6 u7 : pm_V), k + n = H → fN v u → u 63 22 = -1 → ∃ u' w6 w7, qG L xs (d + 99) CX12_spare 32 [(2, 63), (0, y), (0, w), (0, (spF (opn v t) D k).1), (0, (spF (opn v t) D k).2), (0, (k : Int)), u6, u7] [] (qS u) = qG L xs (d + 99) CX12_spare 250 [(2, 63), (0, y), (0, w), (0, (spF (opn v t) D H).1), (0, (spF (opn v t) D H).2), (0, (H : Int)), w6, w7] [] (qS u') ∧ fN v u' ∧ u' 63 22 = -1
  | 0, k, u, u6, u7, hk, hu, h22 => by
    have e : k = H := by omega
    subst e
    obtain ⟨⟨-, k6, k8, -⟩, -⟩ := hC
    refine ⟨u, u6, u7, ?_, hu, h22⟩
    rw [b_X12_spare_32]
    by_cases h0 : t = 0
    · rw [if_pos h0] at hH
      rw [if_neg (by omega), b_X12_spare_46, b_X12_spare_50, hu.2 8 (by omega), if_neg (by omega)]
    · rw [if_neg h0] at hH
      rw [if_pos (by omega), b_X12_spare_39, b_X12_spare_50, hu.2 6 (by omega), if_neg (by omega)]
  | n + 1, k, u, u6, u7, hk, hu, h22 => by
    have hW0 := hW
    have hC0 := hC
    obtain ⟨⟨k1, k6, k8, k9, k10⟩, kh, kl⟩ := hC
    obtain ⟨q1, q2, q3, -⟩ := hW
    have c64 := fN_c hu (c := 64) (by omega)
    have c68 := fN_c hu (c := 68) (by omega)
    have c69 := fN_c hu (c := 69) (by omega)
    have c70 := fN_c hu (c := 70) (by omega)
    have hT := SG_ok (al := -1) (sh := if t = 0 then -1 else (k : Int)) (sl := if t = 0 then (k : Int) else -1) hW0 hN.1 hP (by omega)
    have a1 : qG L xs (d + 99) CX12_spare 32 [(2, 63), (0, y), (0, w), (0, (spF (opn v t) D k).1), (0, (spF (opn v t) D k).2), (0, (k : Int)), u6, u7] [] (qS u) = (if opn v t k = 0 then qG L xs (d + 99) CX12_spare 244 [(2, 63), (0, y), (0, w), (0, (spF (opn v t) D k).1), (0, (spF (opn v t) D k).2), (0, (k : Int)), (0, opn v t k), u7] [] (qS u) else qG L xs (d + 99) CX12_spare 151 [(2, 63), (0, y), (0, w), (0, (spF (opn v t) D k).1), (0, (spF (opn v t) D k).2), (0, (k : Int)), (0, opn v t k), u7] [] (qS u)) := by
      rw [b_X12_spare_32]
      by_cases h0 : t = 0
      · rw [if_pos h0] at hH
        obtain ⟨j1, j2, j3, j4⟩ := kl k (by omega)
        have e : opn v t k = zb (v 8 k = 1 ∧ (0 ≤ v 16 k ∧ v 16 k < 2 * v 11 0) ∧ 0 ≤ v 17 k ∧ v 17 k < 2 * v 11 0) := if_pos h0
        rw [if_neg (by omega), b_X12_spare_46, b_X12_spare_50, hu.2 8 (by omega), if_pos (by omega), b_X12_spare_53, if_neg (by omega), b_X12_spare_95, if_pos (by omega), Int.toNat_natCast, c69, j1, b_X12_spare_103, c_isPlace (by rw [c64]; omega) (by rw [c64]; omega), qB_some, psh_some, b_X12_spare_107, zb_0, c64, k1]
        by_cases g1 : 0 ≤ v 16 k ∧ v 16 k < 2 * v 11 0
        · rw [if_pos g1, b_X12_spare_110, if_pos (by omega), Int.toNat_natCast, c70, j2, b_X12_spare_118, c_isPlace (by rw [c64]; omega) (by rw [c64]; omega), qB_some, psh_some, b_X12_spare_122, zb_0, c64, k1]
          by_cases g2 : 0 ≤ v 17 k ∧ v 17 k < 2 * v 11 0
          · rw [if_pos g2, b_X12_spare_125, w32_id (by omega) (by omega), if_pos (by omega), show (114 + (k : Int)).toNat = 114 + k by omega, c64, j3, b_X12_spare_135]
            by_cases g3 : v 8 k = 1
            · rw [e, zb_t ⟨g3, g1, g2⟩, if_pos g3, b_X12_spare_139, b_X12_spare_144]
            · rw [e, zb_f (fun z => g3 z.1), if_neg g3, b_X12_spare_143, b_X12_spare_144]
          · rw [e, zb_f (fun z => g2 z.2.2), if_neg g2, b_X12_spare_143, b_X12_spare_144]
        · rw [e, zb_f (fun z => g1 z.2.1), if_neg g1, b_X12_spare_143, b_X12_spare_144]
      · rw [if_neg h0] at hH
        obtain ⟨j1, j2, j3⟩ := kh k (by omega)
        have e : opn v t k = zb (v 6 k = 1 ∧ 0 ≤ v 15 k ∧ v 15 k < v 11 0) := if_neg h0
        rw [if_pos (by omega), b_X12_spare_39, b_X12_spare_50, hu.2 6 (by omega), if_pos (by omega), b_X12_spare_53, if_pos (by omega), b_X12_spare_58, if_pos (by omega), Int.toNat_natCast, c68, j1, b_X12_spare_66, c_isYard (by rw [c64]; omega) (by rw [c64]; omega), qB_some, psh_some, b_X12_spare_70, zb_0, c64, k1]
        by_cases g1 : 0 ≤ v 15 k ∧ v 15 k < v 11 0
        · rw [if_pos g1, b_X12_spare_73, w32_id (by omega) (by omega), if_pos (by omega), show (90 + (k : Int)).toNat = 90 + k by omega, c64, j2, b_X12_spare_83]
          by_cases g3 : v 6 k = 1
          · rw [e, zb_t ⟨g3, g1⟩, if_pos g3, b_X12_spare_87, b_X12_spare_144]
          · rw [e, zb_f (fun z => g3 z.1), if_neg g3, b_X12_spare_91, b_X12_spare_144]
        · rw [e, zb_f (fun z => g1 z.2), if_neg g1, b_X12_spare_91, b_X12_spare_144]
    by_cases g : opn v t k = 0
    · obtain ⟨u', w6, w7, e1, e2, e3⟩ := lp_mspare hw ht y1 y2 ha hb hP hW0 hC0 hN hH hH2 hD n (k + 1) u (0, opn v t k) u7 (by omega) hu h22
      refine ⟨u', w6, w7, ?_, e2, e3⟩
      have e : spF (opn v t) D (k + 1) = spF (opn v t) D k := if_neg (by omega)
      rw [e, show ((k + 1 : Nat) : Int) = (k : Int) + 1 by omega] at e1
      refine Eq.trans ?_ e1
      rw [a1, if_pos g, b_X12_spare_244, w32_id (by omega) (by omega)]
    · have g1 : opn v t k = 1 := by
        rcases opn_01 v t k with q | q
        · exact absurd q g
        · exact q
      have a2 : qG L xs (d + 99) CX12_spare 151 [(2, 63), (0, y), (0, w), (0, (spF (opn v t) D k).1), (0, (spF (opn v t) D k).2), (0, (k : Int)), (0, opn v t k), u7] [] (qS u) = qG L xs (d + 99) CX12_spare 181 [(2, 63), (0, y), (0, w), (0, (spF (opn v t) D k).1), (0, (spF (opn v t) D k).2), (0, (k : Int)), (0, opn v t k), u7] [] (qS (pm_up (pm_up u 63 23 (if t = 0 then -1 else (k : Int))) 63 24 (if t = 0 then (k : Int) else -1))) := by
        by_cases h0 : t = 0
        · rw [if_pos h0, if_pos h0, b_X12_spare_151, if_neg (by omega), b_X12_spare_162, b_X12_spare_163, b_X12_spare_166, if_neg (by omega), b_X12_spare_176, b_X12_spare_178]
        · rw [if_neg h0, if_neg h0, b_X12_spare_151, if_pos (by omega), b_X12_spare_157, b_X12_spare_163, b_X12_spare_166, if_pos (by omega), b_X12_spare_172, b_X12_spare_178]
      obtain ⟨p, hp⟩ : ∃ p, p = pm_up (pm_up u 63 23 (if t = 0 then -1 else (k : Int))) 63 24 (if t = 0 then (k : Int) else -1) := ⟨_, rfl⟩
      rw [← hp] at a2
      have fp : fN v p := by
        refine fN_t hu ⟨fun c hc => ?_, fun j hj => ?_⟩
        · rw [hp, up_cell (by omega), up_cell (by omega)]
        · rw [hp, up_ne (by omega), up_ne (by omega)]
      obtain ⟨v3, f1, f2, f3⟩ := m_asks (L := L) (xs := xs) (d := d + 7) (v := p) (c := c) (al := -1) (sh := if t = 0 then -1 else (k : Int)) (sl := if t = 0 then (k : Int) else -1) (by rw [WW_N fp]; exact hW0) (by rw [CW_N fp]; exact hC0) (LN_N hN fp) (by rw [hp, up_ne (by omega), up_ne (by omega)]; exact h22) (by rw [hp, up_ne (by omega), up_eq]) (by rw [hp, up_eq]) (by rw [fN_c fp (c := 11) (by omega)]; omega)
      rw [SG_N fp] at f3
      have n3 : fN v v3 := fN_t fp (fA_N f2)
      obtain ⟨v4, r4, f4, f5, f6⟩ := m_wayFrom (L := L) (xs := xs) (d := d + 96) (s := a) (p := b) (by omega) (by rw [fN_c n3 (c := 64) (by omega), k1]; exact hP) hT f3 ha hb
      have n4 : fN v v4 := fN_t n3 (fP_75 f5).1
      have h22' : v4 63 22 = -1 := by
        rw [f5 63 (by decide) (by decide), f2.2 22 (by omega), hp, up_ne (by omega), up_ne (by omega)]
        exact h22
      have hr : (if r4 < 0 then 9999 else r4) = D k := by
        rcases Lst_one (hD k (by omega)) f6 with ⟨z1, z2, z3, -⟩ | ⟨z1, z2, -⟩
        · rw [if_neg (by omega)]; exact z3
        · rw [if_pos (by omega)]; exact z1.symm
      have a3 : qG L xs (d + 99) CX12_spare 197 [(2, 63), (0, y), (0, w), (0, (spF (opn v t) D k).1), (0, (spF (opn v t) D k).2), (0, (k : Int)), (0, opn v t k), u7] [(0, r4)] (qS v4) = qG L xs (d + 99) CX12_spare 212 [(2, 63), (0, y), (0, w), (0, (spF (opn v t) D k).1), (0, (spF (opn v t) D k).2), (0, (k : Int)), (0, opn v t k), (0, r4)] [(0, D k)] (qS v4) := by
        rw [b_X12_spare_197, ← hr]
        by_cases z : r4 < 0
        · rw [if_pos z, if_pos z, b_X12_spare_204]
        · rw [if_neg z, if_neg z, b_X12_spare_210]
      obtain ⟨u', w6, w7, e1, e2, e3⟩ := lp_mspare hw ht y1 y2 ha hb hP hW0 hC0 hN hH hH2 hD n (k + 1) v4 (0, opn v t k) (0, D k) (by omega) n4 h22'
      refine ⟨u', w6, w7, ?_, e2, e3⟩
      refine Eq.trans ?_ e1
      rw [show ((k + 1 : Nat) : Int) = (k : Int) + 1 by omega, a1, if_neg g, a2, b_X12_spare_181, f1, qB_some, psh_none, b_X12_spare_185, y1, y2, f4, qB_some, psh_some, a3, b_X12_spare_212]
      by_cases q : (spF (opn v t) D k).2 < D k
      · have e : spF (opn v t) D (k + 1) = ((k : Int), D k) := if_pos ⟨g1, q⟩
        rw [e, if_pos q, b_X12_spare_221, b_X12_spare_227, if_pos q, b_X12_spare_235, b_X12_spare_242, b_X12_spare_244, w32_id (by omega) (by omega)]
      · have e : spF (opn v t) D (k + 1) = spF (opn v t) D k := if_neg (fun z => q z.2)
        rw [e, if_neg q, b_X12_spare_226, b_X12_spare_227, if_neg q, b_X12_spare_240, b_X12_spare_242, b_X12_spare_244, w32_id (by omega) (by omega)]
theorem op_spare (hz : Wz L xs v c) (y w : Int) (hy : y < 2147483648) : opW L xs d v nX11_spare nX12_spare [(0, y), (0, w)] := by
  have hz0 := hz
  obtain ⟨hW, hC, hM, hN, h5, h6, h7⟩ := hz
  have hW0 := hW
  obtain ⟨q1, q2, q3, -⟩ := hW0
  have k1 := hC.1.1
  obtain ⟨P, hP⟩ : ∃ P : Nat, 2 * v 11 0 = (P : Int) := ⟨(2 * v 11 0).toNat, by omega⟩
  by_cases g : (0 ≤ y ∧ y / 100 < 2 * v 11 0 ∧ y % 100 < 2 * v 11 0) ∧ 0 ≤ w ∧ w ≤ 3
  · obtain ⟨a, ha⟩ : ∃ a : Nat, y / 100 = (a : Int) := ⟨(y / 100).toNat, by omega⟩
    obtain ⟨b, hb⟩ : ∃ b : Nat, y % 100 = (b : Int) := ⟨(y % 100).toNat, by omega⟩
    have y1 : w32 (Int.tdiv y 100) = (a : Int) := by rw [td_pos 100 (by omega), w32_id (by omega) (by omega), ha]
    have y2 : Int.tmod y 100 = (b : Int) := by rw [tm_pos 100 (by omega), hb]
    have haP : a < P := by omega
    have hbP : b < P := by omega
    obtain ⟨t, ht, hw⟩ : ∃ t : Int, (t = 0 ∨ t = 1) ∧ (w < 2 ↔ t = 1) := by
      by_cases h : w < 2
      · exact ⟨1, Or.inr rfl, fun _ => rfl, fun _ => h⟩
      · exact ⟨0, Or.inl rfl, fun q => absurd q h, fun q => by omega⟩
    obtain ⟨H, hH, hH2⟩ : ∃ H : Nat, (if t = 0 then v 1 2 else v 1 1) = (H : Int) ∧ H ≤ 12 := by
      by_cases h : t = 0
      · rw [if_pos h]; exact ⟨(v 1 2).toNat, by omega, by omega⟩
      · rw [if_neg h]; exact ⟨(v 1 1).toNat, by omega, by omega⟩
    obtain ⟨v1, S, e1, e2, e3⟩ := c_lay (L := L) (xs := xs) (d := d + 89) hW hP hM
    have hDx : ∀ k : Nat, ∃ x : Int, k < H → Lst (spT v c t k) a b 9999 x := fun k => by
      by_cases hk : k < H
      · by_cases h : t = 0
        · obtain ⟨u, -, -, e6⟩ := c_from (L := L) (xs := xs) (d := d) e3.1 (EC_E hW e3 (x := 12 + (k : Int)) (by omega)) haP
          refine ⟨u 34 b, fun _ => ?_⟩
          have := e6 b hbP
          rw [if_neg (by omega), if_neg (by omega), show 12 + (k : Int) - 12 = (k : Int) by omega] at this
          unfold spT
          rw [if_pos h, if_pos h]
          exact this
        · obtain ⟨u, -, -, e6⟩ := c_from (L := L) (xs := xs) (d := d) e3.1 (EC_E hW e3 (x := (k : Int)) (by omega)) haP
          refine ⟨u 34 b, fun _ => ?_⟩
          have := e6 b hbP
          rw [if_pos (by omega), if_pos (by omega)] at this
          unfold spT
          rw [if_neg h, if_neg h]
          exact this
      · exact ⟨0, fun q => absurd q hk⟩
    obtain ⟨D, hD⟩ := Classical.axiomOfChoice hDx
    obtain ⟨v2, w8, e4, e5⟩ := lp_spare (L := L) (xs := xs) (d := d + 94) (D := D) w ht y1 y2 haP hbP hW hM e2 e3 hH hH2 hD H 0 v1 (9, 0) (by omega) (fun _ _ => rfl)
    have f2 : fW v v2 := fW_t e2 (fW_own (fun c hc => e5 c (by omega)))
    obtain ⟨hW2, hC2, hM2, hN2, h52, h62, h72⟩ := Wz_W f2 hz0
    have hop : opn v2 t = opn v t := by
      funext k
      unfold opn
      rw [fW_c f2 (c := 6) (by omega), fW_c f2 (c := 8) (by omega), fW_c f2 (c := 11) (by omega), fW_c f2 (c := 15) (by omega), fW_c f2 (c := 16) (by omega), fW_c f2 (c := 17) (by omega)]
    have hsp : spT v2 = spT v := by
      funext c t k
      unfold spT
      rw [SG_W f2]
    obtain ⟨v3, w6, w7, e6, e7, e8⟩ := lp_mspare (L := L) (xs := xs) (d := d) (v := v2) (P := P) (D := D) hw ht y1 y2 haP hbP (by rw [fW_c f2 (c := 11) (by omega)]; exact hP) hW2 hC2 hN2 (by rw [fW_c f2 (c := 1) (by omega)]; exact hH) hH2 (by rw [hsp]; exact hD) H 0 v2 (9, 0) (9, 0) (by omega) (fN_r v2) h52
    rw [hop] at e6
    have hm2 : Int.tmod w 2 = w % 2 := tm_pos 2 (by omega)
    refine ⟨if w % 2 = 0 then (spF (opn v t) D H).1 else (spF (opn v t) D H).2, v2, pm_up (pm_up v3 63 23 (-1)) 63 24 (-1), ?_, f2, ?_, ⟨fN_t e7 ⟨fun c hc => by rw [up_cell (by omega), up_cell (by omega)], fun k hk => by rw [up_ne (by omega), up_ne (by omega)]⟩, ?_, ?_, ?_⟩⟩
    · rw [e_X11_spare, b_X11_spare_0, c_arePlaces (by omega) (by omega) y hy, qB_some, psh_some, b_X11_spare_5, zb_0, if_pos g.1, b_X11_spare_8, if_neg (by omega), b_X11_spare_12, if_neg (by omega), b_X11_spare_19, e1, qB_some, psh_none, b_X11_spare_34]
      have mid : (if w < 2 then qG L xs (d + 99) CX11_spare 39 [(2, 0), (0, y), (0, w), (9, 0), (9, 0), (9, 0), (9, 0), (9, 0), (9, 0)] [] (qS v1) else qG L xs (d + 99) CX11_spare 43 [(2, 0), (0, y), (0, w), (9, 0), (9, 0), (9, 0), (9, 0), (9, 0), (9, 0)] [] (qS v1)) = qG L xs (d + 99) CX11_spare 79 [(2, 0), (0, y), (0, w), (0, t), (0, (H : Int)), (0, -2), (0, -2), (0, 0), (9, 0)] [] (qS v1) := by
        rcases ht with h | h
        · rw [if_pos h] at hH
          rw [if_neg (by omega), b_X11_spare_43, b_X11_spare_44, if_pos rfl, b_X11_spare_59, b_X11_spare_66, fW_c e2 (c := 1) (by omega), hH, h]
        · rw [if_neg (by omega)] at hH
          rw [if_pos (by omega), b_X11_spare_39, b_X11_spare_44, if_neg (by decide), b_X11_spare_49, b_X11_spare_66, fW_c e2 (c := 1) (by omega), hH, h]
      rw [mid]
      refine Eq.trans e4 ?_
      rw [b_X11_spare_176, hm2]
      by_cases z : w % 2 = 0
      · rw [if_pos z, if_pos z, b_X11_spare_182, b_X11_spare_189]
      · rw [if_neg z, if_neg z, b_X11_spare_187, b_X11_spare_189]
    · have k2 := hC2.1.1
      have c11 : v2 11 0 = v 11 0 := by rw [fW_c f2 (c := 11) (by omega)]
      rw [e_X12_spare, b_X12_spare_0, m_isAb (by omega) (by omega) y hy, qB_some, psh_some, b_X12_spare_5, zb_0, if_pos (by rw [k2, c11]; exact g.1), b_X12_spare_8, c_within, qB_some, psh_some, b_X12_spare_17, zb_0, if_pos (by omega), b_X12_spare_22]
      refine Eq.trans e6 ?_
      rw [b_X12_spare_250, b_X12_spare_255, b_X12_spare_260, hm2]
      by_cases z : w % 2 = 0
      · rw [if_pos z, if_pos z, b_X12_spare_266, b_X12_spare_272]
      · rw [if_neg z, if_neg z, b_X12_spare_270, b_X12_spare_272]
    · rw [up_ne (by omega), up_ne (by omega), e8, h52]
    · rw [up_ne (by omega), up_eq, h62]
    · rw [up_eq, h72]
  · refine opW_no (r := -1) ?_ ?_
    · rw [e_X11_spare, b_X11_spare_0, c_arePlaces (by omega) (by omega) y hy, qB_some, psh_some, b_X11_spare_5, zb_0]
      by_cases g1 : 0 ≤ y ∧ y / 100 < 2 * v 11 0 ∧ y % 100 < 2 * v 11 0
      · rw [if_pos g1, b_X11_spare_8]
        by_cases g2 : w < 0
        · rw [if_pos g2, b_X11_spare_17]
        · rw [if_neg g2, b_X11_spare_12, if_pos (by omega), b_X11_spare_17]
      · rw [if_neg g1, b_X11_spare_17]
    · rw [e_X12_spare, b_X12_spare_0, m_isAb (by omega) (by omega) y hy, qB_some, psh_some, b_X12_spare_5, zb_0, k1]
      by_cases g1 : 0 ≤ y ∧ y / 100 < 2 * v 11 0 ∧ y % 100 < 2 * v 11 0
      · rw [if_pos g1, b_X12_spare_8, c_within, qB_some, psh_some, b_X12_spare_17, zb_0, if_neg (by omega), b_X12_spare_20]
      · rw [if_neg g1, b_X12_spare_20]
end SR
