/-! CALLS that keep the relation: shift, taken (written by wip/p1/88.opsf.py) -/
section OF2
variable {L : Nat} {xs : Nat → Int} {d : Nat} {v w : Nat → Nat → Int}
theorem lpr_car {a i b j n : Nat} (ha : a < 6) (hi : i + n ≤ 60) : ∀ (m k : Nat) (v : Nat → Nat → Int), k + m = n → ∃ v', qG L xs d CX12_shift 113 [(2, 63), (0, (a : Int)), (0, (i : Int)), (0, (b : Int)), (0, (j : Int)), (0, (n : Int)), (0, (k : Int))] [] (qS v) = qG L xs d CX12_shift 147 [(2, 63), (0, (a : Int)), (0, (i : Int)), (0, (b : Int)), (0, (j : Int)), (0, (n : Int)), (0, (n : Int))] [] (qS v') ∧ (∀ c q, ¬ (c = 89 ∧ k ≤ q ∧ q < n) → v' c q = v c q) ∧ ∀ q, k ≤ q → q < n → v' 89 q = v 88 (60 * a + i + q)
  | 0, k, v, hk => by
    have e : k = n := by omega
    subst e
    refine ⟨v, ?_, fun _ _ _ => rfl, fun q h1 h2 => by omega⟩
    rw [b_X12_shift_113, if_neg (by omega)]
  | m + 1, k, v, hk => by
    obtain ⟨v', e1, e2, e3⟩ := lpr_car (b := b) (j := j) ha hi m (k + 1) (pm_up v 89 k (v 88 (60 * a + i + k))) (by omega)
    have ix : w32 (w32 (w32 (60 * (a : Int)) + (i : Int)) + (k : Int)) = ((60 * a + i + k : Nat) : Int) := by
      rw [w32_id (z := 60 * (a : Int)) (by omega) (by omega), w32_id (z := 60 * (a : Int) + (i : Int)) (by omega) (by omega), w32_id (by omega) (by omega)]; omega
    refine ⟨v', ?_, fun c q hq => ?_, fun q h1 h2 => ?_⟩
    · refine Eq.trans ?_ e1
      rw [b_X12_shift_113, if_pos (by omega), b_X12_shift_120, ix, if_pos (by omega), Int.toNat_natCast, b_X12_shift_140, if_pos (by omega), Int.toNat_natCast, b_X12_shift_141, w32_id (by omega) (by omega)]
      rfl
    · rw [e2 c q (by omega), up_ne (by omega)]
    · by_cases z : q = k
      · rw [z, e2 89 k (by omega), up_eq]
      · rw [e3 q (by omega) h2, up_ne (by omega)]
theorem lpr_put {a i b j n : Nat} (hb : b < 6) (hj : j + n ≤ 60) : ∀ (m k : Nat) (v : Nat → Nat → Int), k + m = n → ∃ v', qG L xs d CX12_shift 150 [(2, 63), (0, (a : Int)), (0, (i : Int)), (0, (b : Int)), (0, (j : Int)), (0, (n : Int)), (0, (k : Int))] [] (qS v) = some (some (0, (n : Int)), qS v') ∧ (∀ c q, ¬ (c = 88 ∧ 60 * b + j + k ≤ q ∧ q < 60 * b + j + n) → v' c q = v c q) ∧ ∀ q, k ≤ q → q < n → v' 88 (60 * b + j + q) = v 89 q
  | 0, k, v, hk => by
    have e : k = n := by omega
    subst e
    refine ⟨v, ?_, fun _ _ _ => rfl, fun q h1 h2 => by omega⟩
    rw [b_X12_shift_150, if_neg (by omega), b_X12_shift_185]
  | m + 1, k, v, hk => by
    obtain ⟨v', e1, e2, e3⟩ := lpr_put (a := a) (i := i) hb hj m (k + 1) (pm_up v 88 (60 * b + j + k) (v 89 k)) (by omega)
    have ix : w32 (w32 (w32 (60 * (b : Int)) + (j : Int)) + (k : Int)) = ((60 * b + j + k : Nat) : Int) := by
      rw [w32_id (z := 60 * (b : Int)) (by omega) (by omega), w32_id (z := 60 * (b : Int) + (j : Int)) (by omega) (by omega), w32_id (by omega) (by omega)]; omega
    refine ⟨v', ?_, fun c q hq => ?_, fun q h1 h2 => ?_⟩
    · refine Eq.trans ?_ e1
      rw [b_X12_shift_150, if_pos (by omega), b_X12_shift_157, if_pos (by omega), Int.toNat_natCast, ix, b_X12_shift_178, if_pos (by omega), Int.toNat_natCast, b_X12_shift_179, w32_id (by omega) (by omega)]
      rfl
    · rw [e2 c q (by omega), up_ne (by omega)]
    · by_cases z : q = k
      · rw [z, e2 88 (60 * b + j + k) (by omega), up_eq]
      · rw [e3 q (by omega) h2, up_ne (by omega)]
theorem cr_copy {a i b j n : Nat} (h : rlS v) (ha : a < 6) (hb : b < 6) (hi : ((i + n : Nat) : Int) ≤ szS v a) (hj : ((j + n : Nat) : Int) ≤ szS v b) : qE L xs (d + 5) nX8_copy [(2, 52), (0, (a : Int)), (0, (i : Int)), (0, (b : Int)), (0, (j : Int)), (0, (n : Int))] (qS v) = some (none, qS (pm_cpy v (57 + a) (57 + b) i j n)) := by
  have z1 := szS_in h a ha
  have z2 := szS_in h b hb
  rw [e_X8_copy, b_X8_copy_0, cr_hasElements h a ha _ _ (by omega) (by omega), qB_some, psh_some, b_X8_copy_8, zb_0, if_pos (by omega), b_X8_copy_11, cr_hasElements h b hb _ _ (by omega) (by omega), qB_some, psh_some, b_X8_copy_20, zb_0, if_pos (by omega), b_X8_copy_23]
  refine (qG_aald (c := 56) (e := 5) (n := 6) (t := 57 + a) rfl rfl (Or.inr rfl) (by omega) (by omega) (sh_ref' ha)).trans ?_
  rw [b_X8_copy_29]
  refine (qG_aald (c := 56) (e := 5) (n := 6) (t := 57 + b) rfl rfl (Or.inr rfl) (by omega) (by omega) (sh_ref' hb)).trans ?_
  rw [b_X8_copy_36]
  refine (qG_cpy (s := 57 + a) (t := 57 + b) (e := 1) (ns := 60) (nt := 60) rfl rfl (sh_get' ha) (sh_get' hb) (Or.inr rfl) (by omega) (by omega) (by omega) (by omega) (by omega) rfl (sh_nr' ha) (sh_nr' hb)).trans ?_
  rw [Int.toNat_natCast, Int.toNat_natCast, Int.toNat_natCast]
  show qG L xs (d + 4) CX8_copy 43 _ _ _ = _
  rw [b_X8_copy_43]
theorem opr_shift (h : rlR v) (a i b j n : Int) (hi : i < 2147483648) (hj : j < 2147483648) (hn : n < 2147483648) : opR L xs v nX11_shift nX12_shift 0 [(0, a), (0, i), (0, b), (0, j), (0, n)] := by
  have hS := h.2.2.2.2.2.2.2.1
  have hB := h.2.2.2.2.2.2.1.1
  by_cases g : (0 ≤ a ∧ a < 6) ∧ 0 ≤ b ∧ b < 6
  · obtain ⟨A, rfl⟩ : ∃ A : Nat, a = (A : Int) := ⟨a.toNat, by omega⟩
    obtain ⟨B, rfl⟩ : ∃ B : Nat, b = (B : Int) := ⟨b.toNat, by omega⟩
    have hA6 : A < 6 := by omega
    have hB6 : B < 6 := by omega
    obtain ⟨m1, m2, m3⟩ := mS_at hS hB.2 A hA6
    obtain ⟨n1, n2, n3⟩ := mS_at hS hB.2 B hB6
    have zA := szS_in hS A hA6
    have zB := szS_in hS B hB6
    have cb : qE L xs 1000 nX11_shift [(2, 0), (0, (A : Int)), (0, i), (0, (B : Int)), (0, j), (0, n)] (qS v) = (if v 53 A = -1 ∨ v 53 B = -1 then some (some (0, -11), qS v) else qG L xs 999 CX11_shift 41 [(2, 0), (0, (A : Int)), (0, i), (0, (B : Int)), (0, j), (0, n)] [] (qS v)) := by
      rw [e_X11_shift, b_X11_shift_0, cs_has, qB_some, psh_some, b_X11_shift_4, zb_0, if_pos g.1, b_X11_shift_7, cs_has, qB_some, psh_some, b_X11_shift_11, zb_0, if_pos g.2, b_X11_shift_16, cr_isEmpty A hA6, qB_some, psh_some, b_X11_shift_24, zb_0]
      by_cases y : v 53 A = -1
      · rw [if_pos y, if_pos (Or.inl y), b_X11_shift_38]
      · rw [if_neg y, b_X11_shift_27, cr_isEmpty B hB6, qB_some, psh_some, b_X11_shift_35, zb_0]
        by_cases y2 : v 53 B = -1
        · rw [if_pos y2, if_pos (Or.inr y2), b_X11_shift_38]
        · rw [if_neg y2, if_neg (by omega)]
    have mb : ∀ w : Nat → Nat → Int, w 86 = v 86 → qE L xs 1000 nX12_shift [(2, 63), (0, (A : Int)), (0, i), (0, (B : Int)), (0, j), (0, n)] (qS w) = (if v 53 A = -1 ∨ v 53 B = -1 then some (some (0, -11), qS w) else qG L xs 999 CX12_shift 37 [(2, 63), (0, (A : Int)), (0, i), (0, (B : Int)), (0, j), (0, n), (9, 0)] [] (qS w)) := fun w hw => by
      rw [e_X12_shift, b_X12_shift_0, ms_isShelf, qB_some, psh_some, b_X12_shift_4, zb_0, if_pos g.1, b_X12_shift_7, ms_isShelf, qB_some, psh_some, b_X12_shift_11, zb_0, if_pos g.2, b_X12_shift_16, if_pos (by omega), Int.toNat_natCast, hw, b_X12_shift_22]
      by_cases y : v 53 A = -1
      · rw [if_pos (m1.mpr y), if_pos (Or.inl y), b_X12_shift_34]
      · rw [if_neg (fun z => y (m1.mp z)), b_X12_shift_25, if_pos (by omega), Int.toNat_natCast, hw, b_X12_shift_31]
        by_cases y2 : v 53 B = -1
        · rw [if_pos (n1.mpr y2), if_pos (Or.inr y2), b_X12_shift_34]
        · rw [if_neg (fun z => y2 (n1.mp z)), if_neg (by omega)]
    by_cases y : v 53 A = -1 ∨ v 53 B = -1
    · refine opR_no (r := -11) h ?_ ?_
      · rw [cb, if_pos y]
      · rw [mb v rfl, if_pos y]
    · have c2 : qE L xs 999 nX8_holdRowsAlike [(2, 52), (0, (A : Int)), (0, (B : Int))] (qS v) = some (some (0, zb (0 ≤ v 53 A ∧ v 53 A = v 53 B)), qS v) := by
        rw [e_X8_holdRowsAlike, b_X8_holdRowsAlike_0, cr_sortOf A hA6, qB_some, psh_some, b_X8_holdRowsAlike_5]
        by_cases x : v 53 A < 0
        · rw [if_pos x, b_X8_holdRowsAlike_25, b_X8_holdRowsAlike_26, if_pos (by decide), zb_f (by omega)]
        · rw [if_neg x, b_X8_holdRowsAlike_8, cr_sortOf A hA6, qB_some, psh_some, b_X8_holdRowsAlike_13, cr_sortOf B hB6, qB_some, psh_some, b_X8_holdRowsAlike_18]
          by_cases x2 : v 53 A = v 53 B
          · rw [if_pos x2, b_X8_holdRowsAlike_21, b_X8_holdRowsAlike_26, if_pos (by decide), zb_t (by omega)]
          · rw [if_neg x2, b_X8_holdRowsAlike_25, b_X8_holdRowsAlike_26, if_pos (by decide), zb_f (by omega)]
      by_cases x : 0 ≤ v 53 A ∧ v 53 A = v 53 B
      · have mA := m3 x.1
        have mB := n3 (by omega)
        have mk : ∀ w : Nat → Nat → Int, w 86 = v 86 → w 87 = v 87 → qG L xs 999 CX12_shift 37 [(2, 63), (0, (A : Int)), (0, i), (0, (B : Int)), (0, j), (0, n), (9, 0)] [] (qS w) = (if 0 ≤ n ∧ 0 ≤ i ∧ 0 ≤ j ∧ i + n ≤ szS v A ∧ j + n ≤ szS v B then qG L xs 999 CX12_shift 110 [(2, 63), (0, (A : Int)), (0, i), (0, (B : Int)), (0, j), (0, n), (9, 0)] [] (qS w) else some (some (0, -13), qS w)) := fun w h86 h87 => by
          rw [b_X12_shift_37, if_pos (by omega), Int.toNat_natCast, h86, b_X12_shift_43, if_neg (by omega), b_X12_shift_48, if_pos (by omega), Int.toNat_natCast, h86, b_X12_shift_54, if_pos (by omega), Int.toNat_natCast, h86, b_X12_shift_60, if_pos (by omega), b_X12_shift_66]
          by_cases t1 : n < 0
          · rw [if_pos t1, if_neg (by omega), b_X12_shift_107]
          · rw [if_neg t1, b_X12_shift_71]
            by_cases t2 : i < 0
            · rw [if_pos t2, if_neg (by omega), b_X12_shift_107]
            · rw [if_neg t2, b_X12_shift_75]
              by_cases t3 : j < 0
              · rw [if_pos t3, if_neg (by omega), b_X12_shift_107]
              · rw [if_neg t3, b_X12_shift_80, if_pos (by omega), Int.toNat_natCast, h87, mA.2, b_X12_shift_87, w32_id (by omega) (by omega)]
                by_cases t4 : szS v A - n < i
                · rw [if_pos t4, if_neg (by omega), b_X12_shift_107]
                · rw [if_neg t4, b_X12_shift_93, if_pos (by omega), Int.toNat_natCast, h87, mB.2, b_X12_shift_101, w32_id (by omega) (by omega)]
                  by_cases t5 : szS v B - n < j
                  · rw [if_pos t5, if_neg (by omega), b_X12_shift_107]
                  · rw [if_neg t5, if_pos (by omega)]
        have ck : qG L xs 999 CX11_shift 41 [(2, 0), (0, (A : Int)), (0, i), (0, (B : Int)), (0, j), (0, n)] [] (qS v) = (if 0 ≤ n ∧ 0 ≤ i ∧ 0 ≤ j ∧ i + n ≤ szS v A ∧ j + n ≤ szS v B then qG L xs 999 CX11_shift 93 [(2, 0), (0, (A : Int)), (0, i), (0, (B : Int)), (0, j), (0, n)] [] (qS v) else some (some (0, -13), qS v)) := by
          rw [b_X11_shift_41, c2, qB_some, psh_some, b_X11_shift_50, zb_0, if_pos x, b_X11_shift_56]
          by_cases t1 : n < 0
          · rw [if_pos t1, if_neg (by omega), b_X11_shift_90]
          · rw [if_neg t1, b_X11_shift_61, cr_hasElements hS A hA6 i n hi hn, qB_some, psh_some, b_X11_shift_72, zb_0]
            by_cases t2 : 0 ≤ i ∧ 0 ≤ n ∧ i + n ≤ szS v A
            · rw [if_pos t2, b_X11_shift_75, cr_hasElements hS B hB6 j n hj hn, qB_some, psh_some, b_X11_shift_87, zb_0]
              by_cases t3 : 0 ≤ j ∧ 0 ≤ n ∧ j + n ≤ szS v B
              · rw [if_pos t3, if_pos (by omega)]
              · rw [if_neg t3, if_neg (by omega), b_X11_shift_90]
            · rw [if_neg t2, if_neg (by omega), b_X11_shift_90]
        by_cases t : 0 ≤ n ∧ 0 ≤ i ∧ 0 ≤ j ∧ i + n ≤ szS v A ∧ j + n ≤ szS v B
        · obtain ⟨I, rfl⟩ : ∃ I : Nat, i = (I : Int) := ⟨i.toNat, by omega⟩
          obtain ⟨J, rfl⟩ : ∃ J : Nat, j = (J : Int) := ⟨j.toNat, by omega⟩
          obtain ⟨N, rfl⟩ : ∃ N : Nat, n = (N : Int) := ⟨n.toNat, by omega⟩
          obtain ⟨w1, hw1⟩ : ∃ w1, w1 = pm_cpy v (57 + A) (57 + B) I J N := ⟨_, rfl⟩
          have hu1 : ∀ c q, ¬ (c = 57 + B ∧ J ≤ q ∧ q < J + N) → w1 c q = v c q := fun c q y => by
            rw [hw1]; exact if_neg (by omega)
          have hv1 : ∀ q, J ≤ q → q < J + N → w1 (57 + B) q = v (57 + A) (I + (q - J)) := fun q y1 y2 => by
            rw [hw1]; exact if_pos (by omega)
          obtain ⟨w2, e1, e2, e3⟩ := lpr_car (L := L) (xs := xs) (d := 999) (a := A) (i := I) (b := B) (j := J) (n := N) hA6 (by omega) N 0 w1 (by omega)
          obtain ⟨w3, e4, e5, e6⟩ := lpr_put (L := L) (xs := xs) (d := 999) (a := A) (i := I) (b := B) (j := J) (n := N) hB6 (by omega) N 0 w2 (by omega)
          have hu : ∀ c q, ¬ (c = 57 + B ∧ J ≤ q ∧ q < J + N ∨ c = 89 ∨ c = 88 ∧ 60 * B + J ≤ q ∧ q < 60 * B + J + N) → w3 c q = v c q := fun c q y => by
            rw [e5 c q (by omega), e2 c q (by omega), hu1 c q (by omega)]
          refine ⟨(N : Int), w1, w3, ?_, ?_, ?_⟩
          · rw [cb, if_neg y, ck, if_pos t, b_X11_shift_93, cr_copy hS hA6 hB6 (by omega) (by omega), qB_some, psh_none, ← hw1, b_X11_shift_107]
          · rw [mb w1 (funext (fun q => hu1 86 q (by omega))), if_neg y, mk w1 (funext (fun q => hu1 86 q (by omega))) (funext (fun q => hu1 87 q (by omega))), if_pos t, b_X12_shift_110]
            refine Eq.trans e1 ?_
            rw [b_X12_shift_147]
            exact e4
          · have hS3 : rlS w3 := by
              refine rS_set (K := B) hB6 hS (fun c q x0 x1 x2 x3 => hu c q (by unfold dsS at x0; omega)) ?_
              have q := hS B hB6
              have qA := hS A hA6
              rw [hu 53 B (by omega), hu 54 B (by omega), hu 55 B (by omega), hu 86 B (by omega), hu 87 B (by omega), hu 49 2 (by omega)]
              refine ⟨q.1, q.2.1, q.2.2.1, fun s => ?_⟩
              obtain ⟨z1, z2, z3, z4⟩ := q.2.2.2 s
              obtain ⟨u1, u2, u3, u4⟩ := qA.2.2.2 x.1
              refine ⟨z1, z2, z3, fun p hp => ?_⟩
              by_cases r : J ≤ p ∧ p < J + N
              · have r1 : w3 (57 + B) p = v (57 + A) (I + (p - J)) := by
                  rw [e5 (57 + B) p (by omega), e2 (57 + B) p (by omega), hv1 p r.1 r.2]
                have r2 : w3 88 (60 * B + p) = v 88 (60 * A + (I + (p - J))) := by
                  have a1 := e6 (p - J) (by omega) (by omega)
                  rw [show 60 * B + J + (p - J) = 60 * B + p by omega] at a1
                  rw [a1, e3 (p - J) (by omega) (by omega), show 60 * A + I + (p - J) = 60 * A + (I + (p - J)) by omega, hu1 88 _ (by omega)]
                have r3 := u4 (I + (p - J)) (by omega)
                rw [r1, r2, r3.1, ← x.2]
                exact ⟨rfl, r3.2⟩
              · rw [hu 88 (60 * B + p) (by omega), hu (57 + B) p (by omega)]
                exact z4 p hp
            exact rlR_or h (Or.inr (fun c j q => hu c j (by unfold dsW at q; omega))) (Or.inr (fun c j q => hu c j (by unfold dsC at q; omega))) (Or.inr (fun c j q => hu c j (by unfold dsT at q; omega))) (Or.inr (fun c j q => hu c j (by unfold dsL at q; omega))) (Or.inr (fun c j q => hu c j (by unfold dsD at q; omega))) (Or.inr (fun c j q => hu c j (by unfold dsG at q; omega))) (Or.inr (fun c j q => hu c j (by unfold dsB at q; omega))) (Or.inl hS3) (Or.inr (fun c j q => hu c j (by unfold dsN at q; omega)))
        · refine opR_no (r := -13) h ?_ ?_
          · rw [cb, if_neg y, ck, if_neg t]
          · rw [mb v rfl, if_neg y, mk v rfl rfl, if_neg t]
      · refine opR_no (r := -12) h ?_ ?_
        · rw [cb, if_neg y, b_X11_shift_41, c2, qB_some, psh_some, b_X11_shift_50, zb_0, if_neg x, b_X11_shift_53]
        · rw [mb v rfl, if_neg y, b_X12_shift_37, if_pos (by omega), Int.toNat_natCast, b_X12_shift_43]
          by_cases x1 : v 53 A < 0
          · rw [if_pos (m2.mpr x1), b_X12_shift_63]
          · have mA := m3 (by omega)
            rw [if_neg (fun z => x1 (m2.mp z)), b_X12_shift_48, if_pos (by omega), Int.toNat_natCast, b_X12_shift_54, if_pos (by omega), Int.toNat_natCast, b_X12_shift_60, if_neg (fun z => ?_), b_X12_shift_63]
            have : ¬ v 86 B < 50 := by omega
            have x2 : 0 ≤ v 53 B := by
              by_cases s : v 53 B < 0
              · exact absurd (n2.mpr s) this
              · omega
            have mB := n3 x2
            omega
  · refine opR_no (r := -1) h ?_ ?_
    · rw [e_X11_shift, b_X11_shift_0, cs_has, qB_some, psh_some, b_X11_shift_4, zb_0]
      by_cases g1 : 0 ≤ a ∧ a < 6
      · rw [if_pos g1, b_X11_shift_7, cs_has, qB_some, psh_some, b_X11_shift_11, zb_0, if_neg (by omega), b_X11_shift_14]
      · rw [if_neg g1, b_X11_shift_14]
    · rw [e_X12_shift, b_X12_shift_0, ms_isShelf, qB_some, psh_some, b_X12_shift_4, zb_0]
      by_cases g1 : 0 ≤ a ∧ a < 6
      · rw [if_pos g1, b_X12_shift_7, ms_isShelf, qB_some, psh_some, b_X12_shift_11, zb_0, if_neg (by omega), b_X12_shift_14]
      · rw [if_neg g1, b_X12_shift_14]
/-- KINDS: which is above; whether under -/
def kaI (k : Int) : Int := if k = 1 ∨ k = 2 ∨ k = 6 then 0 else if k = 3 then 2 else if k = 4 then 1 else if k = 5 then 3 else if k = 7 then 4 else -1
def iuF (t : Int) : Nat → Int → Int
  | 0, _ => 0
  | n + 1, k => if 0 ≤ k ∧ k < 8 then (if k = t then 1 else iuF t n (kaI k)) else 0
theorem cr_kindAbove (k : Int) (hk : 0 ≤ k ∧ k < 8) : qE L xs (d + 2) nX0_kindAbove [(0, k)] (qS v) = some (some (0, kaI k), qS v) := by
  have h0 : k = 0 ∨ k = 1 ∨ k = 2 ∨ k = 3 ∨ k = 4 ∨ k = 5 ∨ k = 6 ∨ k = 7 := by omega
  rcases h0 with rfl | rfl | rfl | rfl | rfl | rfl | rfl | rfl <;> (rw [e_X0_kindAbove, b_X0_kindAbove_0, cb_hasKind, qB_some, psh_some, b_X0_kindAbove_4, zb_0, if_pos hk, b_X0_kindAbove_7, if_pos hk, b_X0_kindAbove_12, b_X0_kindAbove_16]; rfl)
theorem lpr_under (x0 t : Int) : ∀ (n j : Nat) (k : Int), j + n = 8 → qG L xs (d + 2) CX0_isUnder 4 [(0, x0), (0, t), (0, k), (0, (j : Int))] [] (qS v) = some (some (0, iuF t n k), qS v)
  | 0, j, k, hj => by
    rw [b_X0_isUnder_4, if_neg (by omega), b_X0_isUnder_37]
    rfl
  | n + 1, j, k, hj => by
    unfold iuF
    rw [b_X0_isUnder_4, if_pos (by omega), b_X0_isUnder_12, cb_hasKind, qB_some, psh_some, b_X0_isUnder_16, zb_0]
    by_cases g : 0 ≤ k ∧ k < 8
    · rw [if_pos g, if_pos g, b_X0_isUnder_19]
      by_cases g2 : k = t
      · rw [if_pos g2, if_pos g2, b_X0_isUnder_24]
      · have ih := lpr_under x0 t n (j + 1) (kaI k) (by omega)
        rw [if_neg g2, if_neg g2, b_X0_isUnder_26, cr_kindAbove k g, qB_some, psh_some, b_X0_isUnder_30, w32_id (by omega) (by omega)]
        exact ih
    · rw [if_neg g, if_neg g, b_X0_isUnder_37]
theorem cr_isUnder (k t : Int) : qE L xs (d + 3) nX0_isUnder [(0, k), (0, t)] (qS v) = some (some (0, iuF t 8 k), qS v) := by
  rw [e_X0_isUnder, b_X0_isUnder_0]
  exact lpr_under k t 8 0 k (by omega)
theorem cr_kindOf (h : rlB v) (i : Nat) (hi : (i : Int) < v 49 2) : qE L xs (d + 2) nX0_kindOf [(2, 49), (0, (i : Int))] (qS v) = some (some (0, v 50 i), qS v) := by
  have h1 := h.1
  rw [e_X0_kindOf, b_X0_kindOf_0, cb_has _ (by omega), qB_some, psh_some, b_X0_kindOf_5, zb_0, if_pos (by omega), b_X0_kindOf_8, if_pos (by omega), Int.toNat_natCast, b_X0_kindOf_14, b_X0_kindOf_18]
theorem mr_kindOf (h : rlB v) (i : Nat) (hi : (i : Int) < v 49 2) : qE L xs (d + 1) nX12_kindOf [(2, 63), (0, (i : Int))] (qS v) = some (some (0, v 50 i), qS v) := by
  have h1 := h.1
  have h2 := h.2.2.1 i hi
  rw [e_X12_kindOf, b_X12_kindOf_0, if_pos (by omega), Int.toNat_natCast, b_X12_kindOf_6, h2.1]
def abI (k : Int) : Int := if k = 3 then 2 else if k = 4 then 1 else if k = 5 then 3 else if k = 7 then 4 else 0
theorem mr_above (k : Int) : qE L xs (d + 1) nX12_above [(0, k)] (qS v) = some (some (0, abI k), qS v) := by
  unfold abI
  rw [e_X12_above, b_X12_above_0]
  by_cases g3 : k = 3
  · rw [if_pos g3, if_pos g3, b_X12_above_5, b_X12_above_38]
  · rw [if_neg g3, if_neg g3, b_X12_above_9]
    by_cases g4 : k = 4
    · rw [if_pos g4, if_pos g4, b_X12_above_14, b_X12_above_38]
    · rw [if_neg g4, if_neg g4, b_X12_above_18]
      by_cases g5 : k = 5
      · rw [if_pos g5, if_pos g5, b_X12_above_23, b_X12_above_38]
      · rw [if_neg g5, if_neg g5, b_X12_above_27]
        by_cases g7 : k = 7
        · rw [if_pos g7, if_pos g7, b_X12_above_33, b_X12_above_38]
        · rw [if_neg g7, if_neg g7, b_X12_above_37, b_X12_above_38]
def muF (t : Int) : Nat → Int → Int
  | 0, z => z
  | n + 1, z => if z = t ∨ ¬ 0 < z then z else muF t n (abI z)
theorem lpr_taken (a t : Int) : ∀ (n : Nat) (z : Int), (muF t n z = t ∨ ¬ 0 < muF t n z) → qG L xs (d + 1) CX12_taken 58 [(2, 63), (0, a), (0, t), (0, z)] [] (qS v) = qG L xs (d + 1) CX12_taken 75 [(2, 63), (0, a), (0, t), (0, muF t n z)] [] (qS v)
  | 0, z, h => by
    have h' : z = t ∨ ¬ 0 < z := h
    show _ = qG L xs (d + 1) CX12_taken 75 [(2, 63), (0, a), (0, t), (0, z)] [] (qS v)
    rw [b_X12_taken_58]
    by_cases g : z = t
    · rw [if_pos g]
    · rw [if_neg g, b_X12_taken_63, if_neg (by omega)]
  | n + 1, z, h => by
    unfold muF at h ⊢
    by_cases g0 : z = t ∨ ¬ 0 < z
    · rw [if_pos g0, b_X12_taken_58]
      by_cases g : z = t
      · rw [if_pos g]
      · rw [if_neg g, b_X12_taken_63, if_neg (by omega)]
    · rw [if_neg g0] at h ⊢
      have ih := lpr_taken a t n (abI z) h
      rw [b_X12_taken_58, if_neg (by omega), b_X12_taken_63, if_pos (by omega), b_X12_taken_67, mr_above, qB_some, psh_some, b_X12_taken_71]
      exact ih
theorem under_eq : ∀ i, i < 8 → ∀ j, j < 8 → (muF ((j : Nat) : Int) 8 ((i : Nat) : Int) = ((j : Nat) : Int) ∨ ¬ 0 < muF ((j : Nat) : Int) 8 ((i : Nat) : Int)) ∧ (iuF ((j : Nat) : Int) 8 ((i : Nat) : Int) = if muF ((j : Nat) : Int) 8 ((i : Nat) : Int) = ((j : Nat) : Int) then 1 else 0) := by decide +kernel
theorem opr_taken (h : rlR v) (a t : Int) : opR L xs v nX11_taken nX12_taken 0 [(0, a), (0, t)] := by
  have hS := h.2.2.2.2.2.2.2.1
  have hB := h.2.2.2.2.2.2.1
  by_cases g : (0 ≤ a ∧ a < 6) ∧ 0 ≤ t ∧ t < 8
  · obtain ⟨K, rfl⟩ : ∃ K : Nat, a = (K : Int) := ⟨a.toNat, by omega⟩
    obtain ⟨T, rfl⟩ : ∃ T : Nat, t = (T : Int) := ⟨t.toNat, by omega⟩
    have hK : K < 6 := by omega
    obtain ⟨m1, m2, m3⟩ := mS_at hS hB.1.2 K hK
    have q := hS K hK
    by_cases y : v 53 K = -1
    · refine opR_no (r := -11) h ?_ ?_
      · rw [e_X11_taken, b_X11_taken_0, cs_has, qB_some, psh_some, b_X11_taken_4, zb_0, if_pos g.1, b_X11_taken_7, cb_hasKind, qB_some, psh_some, b_X11_taken_11, zb_0, if_pos g.2, b_X11_taken_16, cr_isEmpty K hK, qB_some, psh_some, b_X11_taken_24, zb_0, if_pos y, b_X11_taken_27]
      · rw [e_X12_taken, b_X12_taken_0, ms_isShelf, qB_some, psh_some, b_X12_taken_4, zb_0, if_pos g.1, b_X12_taken_7, c_within, qB_some, psh_some, b_X12_taken_16, zb_0, if_pos (by omega), b_X12_taken_21, if_pos (by omega), Int.toNat_natCast, b_X12_taken_27, if_pos (m1.mpr y), b_X12_taken_30]
    · have cb : qE L xs 1000 nX11_taken [(2, 0), (0, (K : Int)), (0, (T : Int))] (qS v) = qG L xs 999 CX11_taken 30 [(2, 0), (0, (K : Int)), (0, (T : Int)), (9, 0)] [] (qS v) := by
        rw [e_X11_taken, b_X11_taken_0, cs_has, qB_some, psh_some, b_X11_taken_4, zb_0, if_pos g.1, b_X11_taken_7, cb_hasKind, qB_some, psh_some, b_X11_taken_11, zb_0, if_pos g.2, b_X11_taken_16, cr_isEmpty K hK, qB_some, psh_some, b_X11_taken_24, zb_0, if_neg y]
      have mb : qE L xs 1000 nX12_taken [(2, 63), (0, (K : Int)), (0, (T : Int))] (qS v) = qG L xs 999 CX12_taken 33 [(2, 63), (0, (K : Int)), (0, (T : Int)), (9, 0)] [] (qS v) := by
        rw [e_X12_taken, b_X12_taken_0, ms_isShelf, qB_some, psh_some, b_X12_taken_4, zb_0, if_pos g.1, b_X12_taken_7, c_within, qB_some, psh_some, b_X12_taken_16, zb_0, if_pos (by omega), b_X12_taken_21, if_pos (by omega), Int.toNat_natCast, b_X12_taken_27, if_neg (fun z => y (m1.mp z))]
      by_cases y2 : v 53 K = -2
      · obtain ⟨z1, z2, z3⟩ := q.2.2.1 y2
        obtain ⟨B, hBB⟩ : ∃ B : Nat, v 54 K = (B : Int) := ⟨(v 54 K).toNat, by omega⟩
        have kb := hB.2.2.1 B (by omega)
        obtain ⟨I, hI⟩ : ∃ I : Nat, v 50 B = (I : Int) := ⟨(v 50 B).toNat, by omega⟩
        have ue := under_eq I (by omega) T (by omega)
        have l1 := lpr_taken (L := L) (xs := xs) (d := 998) (v := v) (K : Int) (T : Int) 8 (I : Int) ue.1
        refine opR_no (r := if muF (T : Int) 8 (I : Int) = (T : Int) then (I : Int) else -12) h ?_ ?_
        · have bo : qE L xs 999 nX8_brickOn [(2, 52), (0, (K : Int))] (qS v) = some (some (0, (B : Int)), qS v) := by
            rw [e_X8_brickOn, b_X8_brickOn_0, cr_holdsBrick K hK, qB_some, psh_some, b_X8_brickOn_5, zb_0, if_pos y2, b_X8_brickOn_8, if_pos (by omega), Int.toNat_natCast, hBB, b_X8_brickOn_14, b_X8_brickOn_18]
          rw [cb, b_X11_taken_30, cr_holdsBrick K hK, qB_some, psh_some, b_X11_taken_38, zb_0, if_pos y2, b_X11_taken_41, bo, qB_some, psh_some, b_X11_taken_53, cr_kindOf hB B (by omega), hI, qB_some, psh_some, b_X11_taken_56, b_X11_taken_60, cr_isUnder, ue.2, qB_some, psh_some, b_X11_taken_66]
          by_cases x : muF (T : Int) 8 (I : Int) = (T : Int)
          · rw [if_pos x, if_neg (by decide), if_pos x, b_X11_taken_69, b_X11_taken_75]
          · rw [if_neg x, if_pos rfl, if_neg x, b_X11_taken_73, b_X11_taken_75]
        · rw [mb, b_X12_taken_33, if_pos (by omega), Int.toNat_natCast, b_X12_taken_39, if_pos (by omega), b_X12_taken_47, if_pos (by omega), Int.toNat_natCast, b_X12_taken_54, z1, hBB, mr_kindOf hB B (by omega), hI, qB_some, psh_some, b_X12_taken_57]
          refine Eq.trans l1 ?_
          rw [b_X12_taken_75]
          by_cases x : muF (T : Int) 8 (I : Int) = (T : Int)
          · rw [if_pos x, if_pos x, b_X12_taken_80, if_pos (by omega), Int.toNat_natCast, b_X12_taken_87, z1, hBB, mr_kindOf hB B (by omega), hI, qB_some, psh_some, b_X12_taken_90, b_X12_taken_95]
          · rw [if_neg x, if_neg x, b_X12_taken_93, b_X12_taken_95]
      · have m4 := m3 (by omega)
        refine opR_no (r := -12) h ?_ ?_
        · rw [cb, b_X11_taken_30, cr_holdsBrick K hK, qB_some, psh_some, b_X11_taken_38, zb_0, if_neg y2, b_X11_taken_59, b_X11_taken_60, cr_isUnder, show iuF (T : Int) 8 (-1) = 0 from if_neg (by omega), qB_some, psh_some, b_X11_taken_66, if_pos rfl, b_X11_taken_73, b_X11_taken_75]
        · rw [mb, b_X12_taken_33, if_pos (by omega), Int.toNat_natCast, b_X12_taken_39, if_neg (by omega), b_X12_taken_44]
  · refine opR_no (r := -1) h ?_ ?_
    · rw [e_X11_taken, b_X11_taken_0, cs_has, qB_some, psh_some, b_X11_taken_4, zb_0]
      by_cases g1 : 0 ≤ a ∧ a < 6
      · rw [if_pos g1, b_X11_taken_7, cb_hasKind, qB_some, psh_some, b_X11_taken_11, zb_0, if_neg (by omega), b_X11_taken_14]
      · rw [if_neg g1, b_X11_taken_14]
    · rw [e_X12_taken, b_X12_taken_0, ms_isShelf, qB_some, psh_some, b_X12_taken_4, zb_0]
      by_cases g1 : 0 ≤ a ∧ a < 6
      · rw [if_pos g1, b_X12_taken_7, c_within, qB_some, psh_some, b_X12_taken_16, zb_0, if_neg (by omega), b_X12_taken_19]
      · rw [if_neg g1, b_X12_taken_19]
end OF2
