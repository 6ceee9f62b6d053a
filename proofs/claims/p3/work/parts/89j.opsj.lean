/-! yards keeps the relation -/
section OJ3
variable {L : Nat} {xs : Nat → Int} {d : Nat} {u v w : Nat → Nat → Int} {k n : Nat}
theorem chC_4 (z : Int) (hk : k < 12) (h : 0 ≤ u 18 4 ∧ u 18 4 ≤ 40) : 0 ≤ chC u k n z 18 4 ∧ chC u k n z 18 4 ≤ 40 := by
  unfold chC
  by_cases g : u (3 + k) n = z
  · rw [if_pos g]
    exact h
  · obtain ⟨D, h1, h2, h3⟩ := ntB_4 h
    rw [if_neg g, h2, Int.toNat_natCast, up_ne (by omega)]
    unfold ntC
    rw [up_ne (by omega), up_eq]
    omega
theorem chM_5 {a : Nat} (z : Int) (h : 0 ≤ v 63 5 ∧ v 63 5 ≤ 40) : 0 ≤ chM v a z 63 5 ∧ chM v a z 63 5 ≤ 40 := by
  unfold chM
  by_cases g : v 64 a = z
  · rw [if_pos g]
    exact h
  · obtain ⟨D, h1, h2, h3⟩ := ntA_5 h
    rw [if_neg g, h2, Int.toNat_natCast, up_ne (by omega)]
    unfold ntM
    rw [up_ne (by omega), up_eq]
    omega
/-- what differs from the first is the wall's and the changes' alone -/
def yfC (u v : Nat → Nat → Int) : Prop := (∀ c j, ¬ (3 ≤ c ∧ c ≤ 14) → ¬ (c = 18 ∧ (j = 4 ∨ j = 5)) → ¬ (19 ≤ c ∧ c ≤ 22) → u c j = v c j) ∧ 0 ≤ u 18 4 ∧ u 18 4 ≤ 40
def yfM (u v : Nat → Nat → Int) : Prop := (∀ c j, ¬ (64 ≤ c ∧ c ≤ 67) → ¬ (c = 63 ∧ (j = 4 ∨ j = 5)) → 63 ≤ c → u c j = v c j) ∧ 0 ≤ u 63 5 ∧ u 63 5 ≤ 40
theorem yfC_ch (h : yfC u v) (hk : k < 12) (z : Int) : yfC (chC u k n z) v := ⟨fun c j q1 q2 q3 => by rw [chC_ne z (by omega) q2 q3]; exact h.1 c j q1 q2 q3, chC_4 z hk h.2⟩
theorem yfM_ch {a : Nat} (h : yfM u v) (z : Int) : yfM (chM u a z) v := ⟨fun c j q1 q2 q3 => by rw [chM_ne z (by omega) q2 (by omega)]; exact h.1 c j q1 q2 q3, chM_5 z h.2⟩
theorem yfC_S (h : yfC u v) (hS : rlS v) : rlS u := by
  refine rlS_cg (fun c j q => ?_) hS
  unfold dsS at q
  by_cases g : c ≤ 62
  · exact h.1 c j (by omega) (by omega) (by omega)
  · exact h.1 c j (by omega) (by omega) (by omega)
def chC3 (u : Nat → Nat → Int) (y : Nat) (V : Nat → Int) (j : Nat) : Nat → Nat → Int := chC (chC (chC u 0 y (V j)) 1 y (V (j + 1))) 2 y (V (j + 2))
def chM3 (v : Nat → Nat → Int) (y : Nat) (V : Nat → Int) (j : Nat) : Nat → Nat → Int := chM (chM (chM v (atM 0 y) (V j)) (atM 1 y) (V (j + 1))) (atM 2 y) (V (j + 2))
/-- the three numbers of a yard may stand -/
abbrev okY (V : Nat → Int) (j : Nat) : Prop := (lo 0 ≤ V j ∧ V j ≤ hi 0) ∧ (lo 1 ≤ V (j + 1) ∧ V (j + 1) ≤ hi 1) ∧ lo 2 ≤ V (j + 2) ∧ V (j + 2) ≤ hi 2
theorem rR_ch3 {y j : Nat} {V : Nat → Int} (h : rlR (mix u v)) (hy : y < 30) (ok : okY V j) : rlR (mix (chC3 u y V j) (chM3 v y V j)) := by
  have a := rR_ch (k := 0) (n := y) h (by omega) (by show y < 30; omega) (by show (y : Int) < 30; omega) (V j) ok.1
  have b := rR_ch (k := 1) (n := y) a (by omega) (by show y < 30; omega) (by show (y : Int) < 30; omega) (V (j + 1)) ok.2.1
  exact rR_ch (k := 2) (n := y) b (by omega) (by show y < 30; omega) (by show (y : Int) < 30; omega) (V (j + 2)) ok.2.2
/-- bytes of a row -/
theorem by_id {K i : Nat} (hS : rlS u) (hK : K < 6) (h0 : u 53 K = 0) (hi : i < 60) : w32 (u (57 + K) i) = u (57 + K) i := by
  have a := ((hS K hK).2.2.2 (by omega)).2.2.2 i hi
  have b := a.2.1 h0
  exact w32_id (by omega) (by omega)
theorem ty_chk {K j : Nat} (hS : rlS u) (hK : K < 6) (h0 : u 53 K = 0) (hj : (j : Int) + 3 ≤ szS u K) (y : Int) (q : Nat) (hq : q < 3) : qG L xs (d + 5) CX11_takeYard 36 [(2, 0), (0, (K : Int)), (1, (j : Int)), (9, 0), (0, y), (0, (q : Int))] [] (qS u) = if lo q ≤ u (57 + K) (j + q) ∧ u (57 + K) (j + q) ≤ hi q then qG L xs (d + 5) CX11_takeYard 36 [(2, 0), (0, (K : Int)), (1, (j : Int)), (9, 0), (0, y), (0, (q : Int) + 1)] [] (qS u) else some (some (0, 0), qS u) := by
  have hz := szS_in hS K hK
  conv => lhs; rw [b_X11_takeYard_36, if_neg (by omega), b_X11_takeYard_42, w32_id (z := (j : Int)) (by omega) (by omega), w32_id (by omega) (by omega), show (j : Int) + (q : Int) = ((j + q : Nat) : Int) by omega, cr_get hS K (j + q) hK (by omega), qB_some, psh_some, b_X11_takeYard_57, by_id hS hK h0 (by omega), cr_allows (k := q) (by omega), qB_some, psh_some, b_X11_takeYard_61, zb_0]
  by_cases g : lo q ≤ u (57 + K) (j + q) ∧ u (57 + K) (j + q) ≤ hi q
  · rw [if_pos g, if_pos g]
    conv => lhs; rw [b_X11_takeYard_66, w32_id (by omega) (by omega)]
  · rw [if_neg g, if_neg g, b_X11_takeYard_64]
theorem ty_set {K j y : Nat} (hS : rlS u) (hC : 0 ≤ u 18 4 ∧ u 18 4 ≤ 40) (hK : K < 6) (h0 : u 53 K = 0) (hj : (j : Int) + 3 ≤ szS u K) (hy : y < 30) (q : Nat) (hq : q < 3) : qG L xs (d + 5) CX11_takeYard 75 [(2, 0), (0, (K : Int)), (1, (j : Int)), (9, 0), (0, (y : Int)), (0, (q : Int))] [] (qS u) = qG L xs (d + 5) CX11_takeYard 75 [(2, 0), (0, (K : Int)), (1, (j : Int)), (9, 0), (0, (y : Int)), (0, (q : Int) + 1)] [] (qS (chC u q y (u (57 + K) (j + q)))) := by
  have hz := szS_in hS K hK
  have hN : (y : Int) < hmN u q := by
    unfold hmN
    rw [if_pos hq]
    omega
  conv => lhs; rw [b_X11_takeYard_75, if_neg (by omega), b_X11_takeYard_81, w32_id (z := (j : Int)) (by omega) (by omega), w32_id (by omega) (by omega), show (j : Int) + (q : Int) = ((j + q : Nat) : Int) by omega, cr_get hS K (j + q) hK (by omega), qB_some, psh_some, b_X11_takeYard_99, by_id hS hK h0 (by omega), cr_change (k := q) (n := y) (by omega) hy hN hC, qB_some, psh_none, b_X11_takeYard_103, w32_id (by omega) (by omega)]
theorem cr_takeYard {K y : Nat} {i : Int} (hf : yfC u v) (hSv : rlS v) (hK : K < 6) (h0 : v 53 K = 0) (hb : -9223372036854775808 ≤ i ∧ i < 9000000000000000000) : qE L xs (d + 6) nX11_takeYard [(2, 0), (0, (K : Int)), (1, i), (0, (y : Int))] (qS u) = if (y < 30 ∧ 0 ≤ i ∧ i + 3 ≤ szS v K) ∧ okY (v (57 + K)) i.toNat then some (some (0, 1), qS (chC3 u y (v (57 + K)) i.toNat)) else some (some (0, 0), qS u) := by
  have hS := yfC_S hf hSv
  have e53 : u 53 = v 53 := funext fun c => hf.1 53 c (by omega) (by omega) (by omega)
  have e55 : u 55 = v 55 := funext fun c => hf.1 55 c (by omega) (by omega) (by omega)
  have e57 : u (57 + K) = v (57 + K) := funext fun c => hf.1 (57 + K) c (by omega) (by omega) (by omega)
  have ez : szS u K = szS v K := by
    unfold szS
    rw [e53, e55]
  have hz := szS_in hSv K hK
  rw [e_X11_takeYard, b_X11_takeYard_0]
  by_cases g1 : y < 30
  · rw [if_pos (by omega), b_X11_takeYard_7]
    by_cases g2 : 0 ≤ i
    · rw [if_neg (by omega), b_X11_takeYard_13, cr_sizeOf K hK, qB_some, psh_some, b_X11_takeYard_26, w64_id (by omega) (by omega), ez]
      by_cases g3 : i + 3 ≤ szS v K
      · obtain ⟨j, rfl⟩ : ∃ j : Nat, i = (j : Int) := ⟨i.toNat, by omega⟩
        have hj : (j : Int) + 3 ≤ szS u K := by rw [ez]; exact g3
        have h0' : u 53 K = 0 := by rw [e53]; exact h0
        rw [if_neg (by omega), b_X11_takeYard_33, Int.toNat_natCast]
        have k0 := ty_chk (L := L) (xs := xs) (d := d) hS hK h0' hj (y : Int) 0 (by omega)
        have k1 := ty_chk (L := L) (xs := xs) (d := d) hS hK h0' hj (y : Int) 1 (by omega)
        have k2 := ty_chk (L := L) (xs := xs) (d := d) hS hK h0' hj (y : Int) 2 (by omega)
        rw [e57] at k0 k1 k2
        refine Eq.trans k0 ?_
        by_cases o0 : lo 0 ≤ v (57 + K) j ∧ v (57 + K) j ≤ hi 0
        · rw [if_pos (show lo 0 ≤ v (57 + K) (j + 0) ∧ v (57 + K) (j + 0) ≤ hi 0 from o0)]
          refine Eq.trans k1 ?_
          by_cases o1 : lo 1 ≤ v (57 + K) (j + 1) ∧ v (57 + K) (j + 1) ≤ hi 1
          · rw [if_pos o1]
            refine Eq.trans k2 ?_
            by_cases o2 : lo 2 ≤ v (57 + K) (j + 2) ∧ v (57 + K) (j + 2) ≤ hi 2
            · rw [if_pos o2, if_pos ⟨⟨g1, g2, g3⟩, o0, o1, o2⟩, b_X11_takeYard_36, if_pos (by omega), b_X11_takeYard_72]
              have f1 := yfC_ch (k := 0) (n := y) hf (by omega) (v (57 + K) j)
              have f2 := yfC_ch (k := 1) (n := y) f1 (by omega) (v (57 + K) (j + 1))
              have s0 := ty_set (L := L) (xs := xs) (d := d) hS hf.2 hK h0' hj g1 0 (by omega)
              have s1 := ty_set (L := L) (xs := xs) (d := d) (yfC_S f1 hSv) f1.2 hK (by rw [f1.1 53 K (by omega) (by omega) (by omega)]; exact h0) (by unfold szS; rw [f1.1 53 K (by omega) (by omega) (by omega), f1.1 55 K (by omega) (by omega) (by omega)]; exact g3) g1 1 (by omega)
              have s2 := ty_set (L := L) (xs := xs) (d := d) (yfC_S f2 hSv) f2.2 hK (by rw [f2.1 53 K (by omega) (by omega) (by omega)]; exact h0) (by unfold szS; rw [f2.1 53 K (by omega) (by omega) (by omega), f2.1 55 K (by omega) (by omega) (by omega)]; exact g3) g1 2 (by omega)
              rw [e57] at s0
              rw [f1.1 (57 + K) (j + 1) (by omega) (by omega) (by omega)] at s1
              rw [f2.1 (57 + K) (j + 2) (by omega) (by omega) (by omega)] at s2
              refine Eq.trans s0 (Eq.trans s1 (Eq.trans s2 ?_))
              rw [b_X11_takeYard_75, if_pos (by omega), b_X11_takeYard_109]
              rfl
            · rw [if_neg o2, if_neg (fun q => o2 q.2.2.2)]
          · rw [if_neg o1, if_neg (fun q => o1 q.2.2.1)]
        · rw [if_neg (show ¬ (lo 0 ≤ v (57 + K) (j + 0) ∧ v (57 + K) (j + 0) ≤ hi 0) from o0), if_neg (fun q => o0 q.2.1)]
      · rw [if_pos (by omega), b_X11_takeYard_31, if_neg (fun q => g3 q.1.2.2)]
    · rw [if_pos (by omega), b_X11_takeYard_31, if_neg (fun q => g2 q.1.2.1)]
  · rw [if_neg (by omega), b_X11_takeYard_31, if_neg (fun q => g1 q.1.1)]
end OJ3
