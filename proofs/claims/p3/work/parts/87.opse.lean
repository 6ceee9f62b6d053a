/-! CALLS that keep the relation: put, element, shift, taken (written by wip/p1/87.opse.py) -/
section OE2
variable {L : Nat} {xs : Nat → Int} {d : Nat} {v w : Nat → Nat → Int} {k n : Nat}
theorem cr_isEmpty (K : Nat) (hK : K < 6) : qE L xs (d + 2) nX8_isEmpty [(2, 52), (0, (K : Int))] (qS v) = some (some (0, zb (v 53 K = -1)), qS v) := by
  rw [e_X8_isEmpty, b_X8_isEmpty_0, cs_has, qB_some, psh_some, b_X8_isEmpty_4, zb_0, if_pos (by omega), b_X8_isEmpty_7, if_pos (by omega), Int.toNat_natCast, b_X8_isEmpty_13]
  by_cases g : v 53 K = -1
  · rw [if_pos g, b_X8_isEmpty_17, b_X8_isEmpty_22, if_pos (by decide), zb_t g]
  · rw [if_neg g, b_X8_isEmpty_21, b_X8_isEmpty_22, if_pos (by decide), zb_f g]
theorem cr_sortOf (K : Nat) (hK : K < 6) : qE L xs (d + 2) nX8_sortOf [(2, 52), (0, (K : Int))] (qS v) = some (some (0, v 53 K), qS v) := by
  rw [e_X8_sortOf, b_X8_sortOf_0, cs_has, qB_some, psh_some, b_X8_sortOf_4, zb_0, if_pos (by omega), b_X8_sortOf_7, if_pos (by omega), Int.toNat_natCast, b_X8_sortOf_13, b_X8_sortOf_17]
theorem cr_holdsBrick (K : Nat) (hK : K < 6) : qE L xs (d + 2) nX8_holdsBrick [(2, 52), (0, (K : Int))] (qS v) = some (some (0, zb (v 53 K = -2)), qS v) := by
  rw [e_X8_holdsBrick, b_X8_holdsBrick_0, cs_has, qB_some, psh_some, b_X8_holdsBrick_4, zb_0, if_pos (by omega), b_X8_holdsBrick_7, if_pos (by omega), Int.toNat_natCast, b_X8_holdsBrick_13]
  by_cases g : v 53 K = -2
  · rw [if_pos g, b_X8_holdsBrick_18, b_X8_holdsBrick_23, if_pos (by decide), zb_t g]
  · rw [if_neg g, b_X8_holdsBrick_22, b_X8_holdsBrick_23, if_pos (by decide), zb_f g]
theorem cr_holdsRow (K : Nat) (hK : K < 6) (s : Int) : qE L xs (d + 2) nX8_holdsRow [(2, 52), (0, (K : Int)), (0, s)] (qS v) = some (some (0, zb (v 53 K = s)), qS v) := by
  rw [e_X8_holdsRow, b_X8_holdsRow_0, cs_has, qB_some, psh_some, b_X8_holdsRow_4, zb_0, if_pos (by omega), b_X8_holdsRow_7, if_pos (by omega), Int.toNat_natCast, b_X8_holdsRow_13]
  by_cases g : v 53 K = s
  · rw [if_pos g, b_X8_holdsRow_17, b_X8_holdsRow_22, if_pos (by decide), zb_t g]
  · rw [if_neg g, b_X8_holdsRow_21, b_X8_holdsRow_22, if_pos (by decide), zb_f g]
/-- how long a shelf's row is -/
def szS (v : Nat → Nat → Int) (K : Nat) : Int := if v 53 K < 0 then 0 else v 55 K
theorem szS_in (h : rlS v) (K : Nat) (hK : K < 6) : 0 ≤ szS v K ∧ szS v K ≤ 60 := by
  have q := h K hK
  unfold szS
  by_cases g : v 53 K < 0
  · rw [if_pos g]; omega
  · rw [if_neg g]
    exact (q.2.2.2 (by omega)).2.2.1
theorem cr_sizeOf (K : Nat) (hK : K < 6) : qE L xs (d + 3) nX8_sizeOf [(2, 52), (0, (K : Int))] (qS v) = some (some (0, szS v K), qS v) := by
  rw [e_X8_sizeOf, b_X8_sizeOf_0, cr_sortOf K hK, qB_some, psh_some, b_X8_sizeOf_5]
  unfold szS
  by_cases g : v 53 K < 0
  · rw [if_pos g, if_pos g, b_X8_sizeOf_17, b_X8_sizeOf_18]
  · rw [if_neg g, if_neg g, b_X8_sizeOf_8, if_pos (by omega), Int.toNat_natCast, b_X8_sizeOf_14, b_X8_sizeOf_18]
theorem cr_hasElements (h : rlS v) (K : Nat) (hK : K < 6) (i n : Int) (hi : i < 2147483648) (hn : n < 2147483648) : qE L xs (d + 4) nX8_hasElements [(2, 52), (0, (K : Int)), (0, i), (0, n)] (qS v) = some (some (0, zb (0 ≤ i ∧ 0 ≤ n ∧ i + n ≤ szS v K)), qS v) := by
  rw [e_X8_hasElements, b_X8_hasElements_0]
  by_cases g1 : i < 0
  · rw [if_pos g1, b_X8_hasElements_27, b_X8_hasElements_28, if_pos (by decide), zb_f (by omega)]
  · rw [if_neg g1, b_X8_hasElements_4]
    by_cases g2 : n < 0
    · rw [if_pos g2, b_X8_hasElements_27, b_X8_hasElements_28, if_pos (by decide), zb_f (by omega)]
    · rw [if_neg g2, b_X8_hasElements_8, cr_sizeOf K hK, qB_some, psh_some, w64_id (by omega) (by omega), b_X8_hasElements_18, lc_gt]
      by_cases g3 : szS v K < i + n
      · rw [if_pos g3, b_X8_hasElements_27, b_X8_hasElements_28, if_pos (by decide), zb_f (by omega)]
      · rw [if_neg g3, b_X8_hasElements_23, b_X8_hasElements_28, if_pos (by decide), zb_t (by omega)]
theorem cr_refusalOfRow (K : Nat) (hK : K < 6) (s : Int) (hs : s ≠ -1) : qE L xs (d + 3) nX8_refusalOfRow [(2, 52), (0, (K : Int)), (0, s)] (qS v) = some (some (0, if v 53 K = -1 then -11 else if v 53 K = s then 0 else -12), qS v) := by
  rw [e_X8_refusalOfRow, b_X8_refusalOfRow_0, cs_has, qB_some, psh_some, b_X8_refusalOfRow_4, zb_0, if_pos (by omega), b_X8_refusalOfRow_9, cr_isEmpty K hK, qB_some, psh_some, b_X8_refusalOfRow_14, zb_0]
  by_cases g : v 53 K = -1
  · rw [if_pos g, if_pos g, b_X8_refusalOfRow_17]
  · rw [if_neg g, if_neg g, b_X8_refusalOfRow_20, cr_holdsRow K hK, qB_some, psh_some, b_X8_refusalOfRow_26, zb_0]
    by_cases g2 : v 53 K = s
    · rw [if_pos g2, if_pos g2, b_X8_refusalOfRow_29, b_X8_refusalOfRow_35]
    · rw [if_neg g2, if_neg g2, b_X8_refusalOfRow_33, b_X8_refusalOfRow_35]
/-- why an element can't be had -/
def rfS (v : Nat → Nat → Int) (a i : Int) : Int := if 0 ≤ a ∧ a < 6 then (if v 53 a.toNat = -1 then -11 else if v 53 a.toNat = -2 then -12 else if 0 ≤ i ∧ i < szS v a.toNat then 0 else -13) else -1
theorem cr_refusal (h : rlS v) (a i : Int) (hi : i < 2147483648) : qE L xs (d + 5) nX8_refusalOfElement [(2, 52), (0, a), (0, i)] (qS v) = some (some (0, rfS v a i), qS v) := by
  unfold rfS
  by_cases g : 0 ≤ a ∧ a < 6
  · obtain ⟨K, rfl⟩ : ∃ K : Nat, a = (K : Int) := ⟨a.toNat, by omega⟩
    have q := h K (by omega)
    rw [if_pos g, Int.toNat_natCast, e_X8_refusalOfElement, b_X8_refusalOfElement_0, cr_sortOf K (by omega), qB_some, psh_some, b_X8_refusalOfElement_7]
    by_cases g1 : v 53 K = -1
    · have : qE L xs (d + 4) nX8_refusalOfRow [(2, 52), (0, (K : Int)), (0, v 53 K)] (qS v) = some (some (0, -11), qS v) := by
        rw [e_X8_refusalOfRow, b_X8_refusalOfRow_0, cs_has, qB_some, psh_some, b_X8_refusalOfRow_4, zb_0, if_pos (by omega), b_X8_refusalOfRow_9, cr_isEmpty K (by omega), qB_some, psh_some, b_X8_refusalOfRow_14, zb_0, if_pos g1, b_X8_refusalOfRow_17]
      rw [if_pos g1, this, qB_some, psh_some, b_X8_refusalOfElement_10, if_neg (by decide), b_X8_refusalOfElement_15]
    · rw [if_neg g1, cr_refusalOfRow K (by omega) _ g1, if_neg g1, if_pos rfl, qB_some, psh_some, b_X8_refusalOfElement_10, if_pos rfl, b_X8_refusalOfElement_17, cr_holdsBrick K (by omega), qB_some, psh_some, b_X8_refusalOfElement_22, zb_0]
      by_cases g2 : v 53 K = -2
      · rw [if_pos g2, if_pos g2, b_X8_refusalOfElement_25]
      · rw [if_neg g2, if_neg g2, b_X8_refusalOfElement_28, cr_hasElements h K (by omega) i 1 hi (by decide), qB_some, psh_some, b_X8_refusalOfElement_35, zb_0]
        by_cases g3 : 0 ≤ i ∧ i < szS v K
        · rw [if_pos (by omega), if_pos g3, b_X8_refusalOfElement_38, b_X8_refusalOfElement_44]
        · rw [if_neg (by omega), if_neg g3, b_X8_refusalOfElement_42, b_X8_refusalOfElement_44]
  · have so : qE L xs (d + 4) nX8_sortOf [(2, 52), (0, a)] (qS v) = some (some (0, -1), qS v) := by
      rw [e_X8_sortOf, b_X8_sortOf_0, cs_has, qB_some, psh_some, b_X8_sortOf_4, zb_0, if_neg g, b_X8_sortOf_16, b_X8_sortOf_17]
    rw [if_neg g, e_X8_refusalOfElement, b_X8_refusalOfElement_0, so, qB_some, psh_some, b_X8_refusalOfElement_7, e_X8_refusalOfRow, b_X8_refusalOfRow_0, cs_has, qB_some, psh_some, b_X8_refusalOfRow_4, zb_0, if_neg g, b_X8_refusalOfRow_7, qB_some, psh_some, b_X8_refusalOfElement_10, if_neg (by decide), b_X8_refusalOfElement_15]
/-- what the reference's shelf says of it -/
theorem mS_at (h : rlS v) (hb : v 49 2 ≤ 50) (K : Nat) (hK : K < 6) : (v 86 K < 0 ↔ v 53 K = -1) ∧ (v 86 K < 50 ↔ v 53 K < 0) ∧ (0 ≤ v 53 K → v 86 K = 50 + v 53 K ∧ v 87 K = szS v K) := by
  have q := h K hK
  unfold szS
  refine ⟨⟨fun z => ?_, fun z => ?_⟩, ⟨fun z => ?_, fun z => ?_⟩, fun z => ?_⟩
  · by_cases y : v 53 K = -2
    · have := q.2.2.1 y
      omega
    · by_cases x : v 53 K = -1
      · exact x
      · have := q.2.2.2 (by omega)
        omega
  · have := q.2.1 z
    omega
  · by_cases x : 0 ≤ v 53 K
    · have := q.2.2.2 x
      omega
    · omega
  · by_cases y : v 53 K = -2
    · have := q.2.2.1 y
      omega
    · have := q.2.1 (by omega)
      omega
  · rw [if_neg (by omega)]
    exact ⟨(q.2.2.2 z).1, (q.2.2.2 z).2.1⟩
theorem mr_refusal (h : rlS v) (hb : v 49 2 ≤ 50) (a i : Int) : qE L xs (d + 3) nX12_refusal [(2, 63), (0, a), (0, i)] (qS v) = some (some (0, rfS v a i), qS v) := by
  unfold rfS
  rw [e_X12_refusal, b_X12_refusal_0, ms_isShelf, qB_some, psh_some, b_X12_refusal_4, zb_0]
  by_cases g : 0 ≤ a ∧ a < 6
  · obtain ⟨K, rfl⟩ : ∃ K : Nat, a = (K : Int) := ⟨a.toNat, by omega⟩
    obtain ⟨m1, m2, m3⟩ := mS_at h hb K (by omega)
    have q := (h K (by omega)).1
    rw [if_pos g, if_pos g, Int.toNat_natCast, b_X12_refusal_9, if_pos (by omega), Int.toNat_natCast, b_X12_refusal_15]
    by_cases g1 : v 53 K = -1
    · rw [if_pos (m1.mpr g1), if_pos g1, b_X12_refusal_18]
    · rw [if_neg (fun z => g1 (m1.mp z)), if_neg g1, b_X12_refusal_21, if_pos (by omega), Int.toNat_natCast, b_X12_refusal_27]
      by_cases g2 : v 53 K = -2
      · rw [if_pos (m2.mpr (by omega)), if_pos g2, b_X12_refusal_32]
      · have m4 := (m3 (by omega)).2
        rw [if_neg (fun z => by have := m2.mp z; omega), if_neg g2, b_X12_refusal_35]
        by_cases g3 : i < 0
        · rw [if_pos g3, if_neg (by omega), b_X12_refusal_53, b_X12_refusal_55]
        · rw [if_neg g3, b_X12_refusal_39, if_pos (by omega), Int.toNat_natCast, m4, b_X12_refusal_46]
          by_cases g4 : i < szS v K
          · rw [if_pos g4, if_pos (by omega), b_X12_refusal_49, b_X12_refusal_55]
          · rw [if_neg g4, if_neg (by omega), b_X12_refusal_53, b_X12_refusal_55]
  · rw [if_neg g, if_neg g, b_X12_refusal_7]
theorem sh_ref' {K : Nat} (hK : K < 6) : refAt 56 (K : Int).toNat = some (.ofNat (57 + K)) := by
  have := sh_ref (k := (K : Int)) (by omega) (by omega)
  rw [Int.toNat_natCast] at this ⊢
  exact this
theorem sh_get' {K : Nat} (hK : K < 6) : pm_get SH (57 + K) = some (1, 1, 60) := by
  have := sh_get (k := (K : Int)) (by omega) (by omega)
  rw [Int.toNat_natCast] at this
  exact this
theorem sh_nr' {K : Nat} (hK : K < 6) (i : Nat) : refAt (57 + K) i = none := by
  have := sh_nr (k := (K : Int)) (by omega) (by omega) i
  rw [Int.toNat_natCast] at this
  exact this
theorem cr_get (h : rlS v) (K i : Nat) (hK : K < 6) (hi : (i : Int) < szS v K) : qE L xs (d + 5) nX8_get [(2, 52), (0, (K : Int)), (0, (i : Int))] (qS v) = some (some (1, v (57 + K) i), qS v) := by
  have hz := szS_in h K hK
  rw [e_X8_get, b_X8_get_0, cr_hasElements h K hK i 1 (by omega) (by decide), qB_some, psh_some, b_X8_get_7, zb_0, if_pos (by omega), b_X8_get_10]
  refine (qG_aald (c := 56) (e := 5) (n := 6) (t := 57 + K) rfl rfl (Or.inr rfl) (by omega) (by omega) (sh_ref' hK)).trans ?_
  rw [b_X8_get_16]
  refine (qG_ald2 (c := 57 + K) (e := 1) (t := 1) (n := 60) (Or.inr ⟨rfl, rfl, rfl⟩) rfl (by omega) (sh_get' hK) (by omega) (by omega) (sh_nr' hK _)).trans ?_
  rw [Int.toNat_natCast]
  show qG L xs (d + 4) CX8_get 18 _ _ _ = _
  rw [b_X8_get_18, b_X8_get_22]
/-- an element's lowest bits -/
def lbS (s z : Int) : Int := if s = 0 then w8 (w32 z) else if s = 1 then w16 (w32 z) else if s = 2 then w32 z else if s = 4 then (if z = 0 then 0 else 1) else z
theorem lbS_rng {s z : Int} (hz : -9223372036854775808 ≤ z ∧ z < 9223372036854775808) : rng s (lbS s z) := by
  have a := w32_lo z
  have b8 : -128 ≤ w8 (w32 z) ∧ w8 (w32 z) ≤ 127 := by unfold w8; omega
  have b16 : -32768 ≤ w16 (w32 z) ∧ w16 (w32 z) ≤ 32767 := by unfold w16; omega
  unfold rng lbS
  by_cases g0 : s = 0
  · rw [if_pos g0]; omega
  · rw [if_neg g0]
    by_cases g1 : s = 1
    · rw [if_pos g1]; omega
    · rw [if_neg g1]
      by_cases g2 : s = 2
      · rw [if_pos g2]; omega
      · rw [if_neg g2]
        by_cases g4 : s = 4
        · rw [if_pos g4]
          by_cases y : z = 0
          · rw [if_pos y]; omega
          · rw [if_neg y]; omega
        · rw [if_neg g4]; omega
theorem cr_bits (s z : Int) (hs : 0 ≤ s ∧ s ≤ 4) : qE L xs (d + 1) nX8_lowestBits [(0, s), (1, z)] (qS v) = some (some (1, lbS s z), qS v) := by
  unfold lbS
  have h0 : s = 0 ∨ s = 1 ∨ s = 2 ∨ s = 3 ∨ s = 4 := by omega
  rcases h0 with rfl | rfl | rfl | rfl | rfl
  · rw [e_X8_lowestBits, b_X8_lowestBits_0_v0 _ _ rfl, b_X8_lowestBits_36, if_pos rfl]
  · rw [e_X8_lowestBits, b_X8_lowestBits_0_v1 _ _ rfl, b_X8_lowestBits_41, if_neg (by decide), if_pos rfl]
  · rw [e_X8_lowestBits, b_X8_lowestBits_0_v2 _ _ rfl, b_X8_lowestBits_46, if_neg (by decide), if_neg (by decide), if_pos rfl]
  · rw [e_X8_lowestBits, b_X8_lowestBits_0_v3 _ _ rfl, b_X8_lowestBits_62, if_neg (by decide), if_neg (by decide), if_neg (by decide), if_neg (by decide)]
  · rw [if_neg (show ¬ (4 : Int) = 0 by decide), if_neg (show ¬ (4 : Int) = 1 by decide), if_neg (show ¬ (4 : Int) = 2 by decide), if_pos (show (4 : Int) = 4 from rfl), e_X8_lowestBits, b_X8_lowestBits_0_v4 _ _ rfl, b_X8_lowestBits_50, lc_eq]
    by_cases g : z = 0
    · rw [if_pos g, if_pos g, b_X8_lowestBits_60, b_X8_lowestBits_61]
    · rw [if_neg g, if_neg g, b_X8_lowestBits_56, b_X8_lowestBits_61]
theorem mr_bits (s z : Int) : qE L xs (d + 1) nX12_asSort [(0, s), (1, z)] (qS v) = some (some (1, lbS s z), qS v) := by
  unfold lbS
  rw [e_X12_asSort, b_X12_asSort_0]
  by_cases g0 : s = 0
  · rw [if_pos g0, if_pos g0, b_X12_asSort_4, b_X12_asSort_54]
  · rw [if_neg g0, if_neg g0, b_X12_asSort_11]
    by_cases g1 : s = 1
    · rw [if_pos g1, if_pos g1, b_X12_asSort_16, b_X12_asSort_54]
    · rw [if_neg g1, if_neg g1, b_X12_asSort_23]
      by_cases g2 : s = 2
      · rw [if_pos g2, if_pos g2, b_X12_asSort_28, b_X12_asSort_54]
      · rw [if_neg g2, if_neg g2, b_X12_asSort_34]
        by_cases g4 : s = 4
        · rw [if_pos g4, if_pos g4, b_X12_asSort_39, lc_eq]
          by_cases g : z = 0
          · rw [if_pos g, if_pos g, b_X12_asSort_49, b_X12_asSort_54]
          · rw [if_neg g, if_neg g, b_X12_asSort_45, b_X12_asSort_54]
        · rw [if_neg g4, if_neg g4, b_X12_asSort_53, b_X12_asSort_54]
theorem cr_set (h : rlS v) (K i : Nat) (z : Int) (hK : K < 6) (h0 : 0 ≤ v 53 K) (hi : (i : Int) < szS v K) : qE L xs (d + 5) nX8_set [(2, 52), (0, (K : Int)), (0, (i : Int)), (1, z)] (qS v) = some (none, qS (pm_up v (57 + K) i (lbS (v 53 K) z))) := by
  have hz := szS_in h K hK
  have q := (h K hK).1
  rw [e_X8_set, b_X8_set_0, cr_hasElements h K hK i 1 (by omega) (by decide), qB_some, psh_some, b_X8_set_7, zb_0, if_pos (by omega), b_X8_set_10]
  refine (qG_aald (c := 56) (e := 5) (n := 6) (t := 57 + K) rfl rfl (Or.inr rfl) (by omega) (by omega) (sh_ref' hK)).trans ?_
  rw [b_X8_set_16, if_pos (by omega), Int.toNat_natCast, b_X8_set_23, cr_bits _ _ (by omega), qB_some, psh_some]
  refine (qG_ast2 (c := 57 + K) (e := 1) (n := 60) (Or.inr ⟨rfl, rfl⟩) rfl (sh_get' hK) (by omega) (by omega) (sh_nr' hK _)).trans ?_
  rw [Int.toNat_natCast]
  show qG L xs (d + 4) CX8_set 28 _ _ _ = _
  rw [b_X8_set_28]
theorem opr_put (h : rlR v) (a b z : Int) (hb : b < 2147483648) (hz : -9223372036854775808 ≤ z ∧ z < 9223372036854775808) : opR L xs v nX11_put nX12_put 0 [(0, a), (0, b), (1, z)] := by
  have hS := h.2.2.2.2.2.2.2.1
  have hB := h.2.2.2.2.2.2.1.1
  by_cases g : rfS v a b = 0
  · have ha : 0 ≤ a ∧ a < 6 := by
      by_cases y : 0 ≤ a ∧ a < 6
      · exact y
      · unfold rfS at g
        rw [if_neg y] at g
        exact absurd g (by decide)
    obtain ⟨K, rfl⟩ : ∃ K : Nat, a = (K : Int) := ⟨a.toNat, by omega⟩
    have hK : K < 6 := by omega
    have g' := g
    unfold rfS at g'
    rw [if_pos ha, Int.toNat_natCast] at g'
    have q := hS K hK
    have n1 : v 53 K ≠ -1 := fun y => by rw [if_pos y] at g'; exact absurd g' (by decide)
    rw [if_neg n1] at g'
    have n2 : v 53 K ≠ -2 := fun y => by rw [if_pos y] at g'; exact absurd g' (by decide)
    rw [if_neg n2] at g'
    have n3 : 0 ≤ b ∧ b < szS v K := by
      by_cases y : 0 ≤ b ∧ b < szS v K
      · exact y
      · rw [if_neg y] at g'; exact absurd g' (by decide)
    obtain ⟨i, rfl⟩ : ∃ i : Nat, b = (i : Int) := ⟨b.toNat, by omega⟩
    have h0 : 0 ≤ v 53 K := by omega
    have hsz := szS_in hS K hK
    obtain ⟨m1, m2, m3⟩ := mS_at hS hB.2 K hK
    obtain ⟨w1, hw1⟩ : ∃ w1, w1 = pm_up v (57 + K) i (lbS (v 53 K) z) := ⟨_, rfl⟩
    obtain ⟨w2, hw2⟩ : ∃ w2, w2 = pm_up w1 88 (60 * K + i) (lbS (v 53 K) z) := ⟨_, rfl⟩
    have hu1 : ∀ c j, ¬ (c = 57 + K ∧ j = i) → w1 c j = v c j := fun c j q => by
      rw [hw1, up_ne (by omega)]
    have hu : ∀ c j, ¬ (c = 57 + K ∧ j = i ∨ c = 88 ∧ j = 60 * K + i) → w2 c j = v c j := fun c j q => by
      rw [hw2, up_ne (by omega), hu1 c j (by omega)]
    have hS2 : ∀ w, (∀ c j, ¬ (c = 57 + K ∧ j = i ∨ c = 88 ∧ j = 60 * K + i) → w c j = v c j) → w (57 + K) i = lbS (v 53 K) z → w 88 (60 * K + i) = lbS (v 53 K) z → rlS w := fun w hw e1 e2 => by
      refine rS_set (K := K) hK hS (fun c j q x1 x2 x3 => hw c j (by omega)) ?_
      rw [hw 53 K (by omega), hw 54 K (by omega), hw 55 K (by omega), hw 86 K (by omega), hw 87 K (by omega), hw 49 2 (by omega)]
      refine ⟨q.1, q.2.1, q.2.2.1, fun y => ?_⟩
      obtain ⟨z1, z2, z3, z4⟩ := q.2.2.2 y
      refine ⟨z1, z2, z3, fun j hj => ?_⟩
      by_cases e : j = i
      · rw [e, e1, e2]
        exact ⟨rfl, lbS_rng hz⟩
      · rw [hw 88 (60 * K + j) (by omega), hw (57 + K) j (by omega)]
        exact z4 j hj
    have rw1 : rfS w1 (K : Int) (i : Int) = 0 := by
      unfold rfS szS at g ⊢
      rw [Int.toNat_natCast] at g ⊢
      rw [hu1 53 K (by omega), hu1 55 K (by omega)]
      exact g
    refine ⟨1, w1, w2, ?_, ?_, ?_⟩
    · rw [e_X11_put, b_X11_put_0, cr_refusal hS _ _ hb, g, qB_some, psh_some, b_X11_put_9, if_pos rfl, b_X11_put_19, cr_set hS K i z hK h0 n3.2, qB_some, psh_none, ← hw1, b_X11_put_29]
    · have mref : qE L xs 999 nX12_refusal [(2, 63), (0, (K : Int)), (0, (i : Int))] (qS w1) = some (some (0, 0), qS w1) := by
        have e53 := hu1 53 K (by omega)
        rw [e_X12_refusal, b_X12_refusal_0, ms_isShelf, qB_some, psh_some, b_X12_refusal_4, zb_0, if_pos ha, b_X12_refusal_9, if_pos (by omega), Int.toNat_natCast, hu1 86 K (by omega), b_X12_refusal_15, if_neg (fun y => n1 (m1.mp y)), b_X12_refusal_21, if_pos (by omega), Int.toNat_natCast, hu1 86 K (by omega), b_X12_refusal_27, if_neg (fun y => by have := m2.mp y; omega), b_X12_refusal_35, if_neg (by omega), b_X12_refusal_39, if_pos (by omega), Int.toNat_natCast, hu1 87 K (by omega), (m3 h0).2, b_X12_refusal_46, if_pos n3.2, b_X12_refusal_49, b_X12_refusal_55]
      have i2 : w32 (w32 (60 * (K : Int)) + (i : Int)) = ((60 * K + i : Nat) : Int) := by
        rw [w32_id (z := 60 * (K : Int)) (by omega) (by omega), w32_id (by omega) (by omega)]; omega
      rw [e_X12_put, b_X12_put_0, mref, qB_some, psh_some, b_X12_put_6, if_pos rfl, b_X12_put_13, if_pos (by omega), Int.toNat_natCast, hu1 86 K (by omega), (m3 h0).1, i2, b_X12_put_29, w32_id (by omega) (by omega), show 50 + v 53 K - 50 = v 53 K by omega, mr_bits, qB_some, psh_some, b_X12_put_36, if_pos (by omega), Int.toNat_natCast, ← hw2, b_X12_put_37, if_pos rfl, b_X12_put_42, b_X12_put_48]
    · have hS3 : rlS w2 := hS2 w2 hu (by rw [hw2, up_ne (by omega), hw1, up_eq]) (by rw [hw2, up_eq])
      exact rlR_or h (Or.inr (fun c j q => hu c j (by unfold dsW at q; omega))) (Or.inr (fun c j q => hu c j (by unfold dsC at q; omega))) (Or.inr (fun c j q => hu c j (by unfold dsT at q; omega))) (Or.inr (fun c j q => hu c j (by unfold dsL at q; omega))) (Or.inr (fun c j q => hu c j (by unfold dsD at q; omega))) (Or.inr (fun c j q => hu c j (by unfold dsG at q; omega))) (Or.inr (fun c j q => hu c j (by unfold dsB at q; omega))) (Or.inl hS3) (Or.inr (fun c j q => hu c j (by unfold dsN at q; omega)))
  · refine opR_no (r := rfS v a b) h ?_ ?_
    · rw [e_X11_put, b_X11_put_0, cr_refusal hS _ _ hb, qB_some, psh_some, b_X11_put_9, if_neg g, b_X11_put_16]
    · rw [e_X12_put, b_X12_put_0, mr_refusal hS hB.2, qB_some, psh_some, b_X12_put_6, if_neg g, b_X12_put_37, if_neg g, b_X12_put_46, b_X12_put_48]
theorem opr_element (h : rlR v) (a b : Int) (hb : b < 2147483648) : opR L xs v nX11_element nX12_element 1 [(0, a), (0, b)] := by
  have hS := h.2.2.2.2.2.2.2.1
  have hB := h.2.2.2.2.2.2.1.1
  by_cases g : rfS v a b = 0
  · have ha : 0 ≤ a ∧ a < 6 := by
      by_cases y : 0 ≤ a ∧ a < 6
      · exact y
      · unfold rfS at g
        rw [if_neg y] at g
        exact absurd g (by decide)
    obtain ⟨K, rfl⟩ : ∃ K : Nat, a = (K : Int) := ⟨a.toNat, by omega⟩
    have hK : K < 6 := by omega
    have g' := g
    unfold rfS at g'
    rw [if_pos ha, Int.toNat_natCast] at g'
    have q := hS K hK
    have n1 : v 53 K ≠ -1 := fun y => by rw [if_pos y] at g'; exact absurd g' (by decide)
    rw [if_neg n1] at g'
    have n2 : v 53 K ≠ -2 := fun y => by rw [if_pos y] at g'; exact absurd g' (by decide)
    rw [if_neg n2] at g'
    have n3 : 0 ≤ b ∧ b < szS v K := by
      by_cases y : 0 ≤ b ∧ b < szS v K
      · exact y
      · rw [if_neg y] at g'; exact absurd g' (by decide)
    obtain ⟨i, rfl⟩ : ∃ i : Nat, b = (i : Int) := ⟨b.toNat, by omega⟩
    have hsz := szS_in hS K hK
    have i2 : w32 (w32 (60 * (K : Int)) + (i : Int)) = ((60 * K + i : Nat) : Int) := by
      rw [w32_id (z := 60 * (K : Int)) (by omega) (by omega), w32_id (by omega) (by omega)]; omega
    refine opR_no (r := v (57 + K) i) h ?_ ?_
    · rw [e_X11_element, b_X11_element_0, cr_refusal hS _ _ hb, g, qB_some, psh_some, b_X11_element_9, if_pos rfl, b_X11_element_18, cr_get hS K i hK n3.2, qB_some, psh_some, b_X11_element_27]
    · rw [e_X12_element, b_X12_element_0, mr_refusal hS hB.2, g, qB_some, psh_some, b_X12_element_6, if_pos rfl, b_X12_element_15, i2, if_pos (by omega), Int.toNat_natCast, ((q.2.2.2 (by omega)).2.2.2 i (by omega)).1, b_X12_element_26]
  · refine opR_no (r := -9223372036854775808) h ?_ ?_
    · rw [e_X11_element, b_X11_element_0, cr_refusal hS _ _ hb, qB_some, psh_some, b_X11_element_9, if_neg g, b_X11_element_12, b_X11_element_27]
    · rw [e_X12_element, b_X12_element_0, mr_refusal hS hB.2, qB_some, psh_some, b_X12_element_6, if_neg g, b_X12_element_9, b_X12_element_26]
end OE2
