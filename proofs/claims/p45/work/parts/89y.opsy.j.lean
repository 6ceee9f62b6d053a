/-! JOINED: 89y.opsy, 89z.opsz, 89za.opta, 89zb.optb, 89zc.optc, 89zd.optd, 89ze.opte -/
section
/-! THE LAW as the reference reads it: its small steps -/
section OY3
variable {L : Nat} {xs : Nat → Int} {d : Nat} {v w : Nat → Nat → Int} {b : Nat → Int} {e : Nat} {nm : Nat → Int} {k f o : Int}
/-- where it reads, the fault, how many are open -/
def rdS (v : Nat → Nat → Int) (k f o : Int) : Nat → Nat → Int := fun c j => if c = 63 then (if j = 16 then k else if j = 18 then f else if j = 19 then o else v c j) else v c j
theorem rd_16 : rdS v k f o 63 16 = k := rfl
theorem rd_18 : rdS v k f o 63 18 = f := rfl
theorem rd_19 : rdS v k f o 63 19 = o := rfl
theorem rd_ne {c j : Nat} (h : ¬ (c = 63 ∧ (j = 16 ∨ j = 18 ∨ j = 19))) : rdS v k f o c j = v c j := by
  unfold rdS
  by_cases g : c = 63
  · rw [if_pos g, if_neg (by omega), if_neg (by omega), if_neg (by omega)]
  · rw [if_neg g]
theorem rd_u16 (z : Int) : pm_up (rdS v k f o) 63 16 z = rdS v z f o := by
  funext c j
  show (if c = 63 ∧ j = 16 then z else if c = 63 then (if j = 16 then k else if j = 18 then f else if j = 19 then o else v c j) else v c j) = if c = 63 then (if j = 16 then z else if j = 18 then f else if j = 19 then o else v c j) else v c j
  by_cases g : c = 63
  · by_cases g2 : j = 16
    · rw [if_pos ⟨g, g2⟩, if_pos g, if_pos g2]
    · rw [if_neg (by omega), if_pos g, if_pos g, if_neg g2, if_neg g2]
  · rw [if_neg (by omega), if_neg g, if_neg g]
theorem rd_u18 (z : Int) : pm_up (rdS v k f o) 63 18 z = rdS v k z o := by
  funext c j
  show (if c = 63 ∧ j = 18 then z else if c = 63 then (if j = 16 then k else if j = 18 then f else if j = 19 then o else v c j) else v c j) = if c = 63 then (if j = 16 then k else if j = 18 then z else if j = 19 then o else v c j) else v c j
  by_cases g : c = 63
  · by_cases g2 : j = 18
    · rw [if_pos ⟨g, g2⟩, if_pos g, if_neg (by omega), if_pos g2]
    · rw [if_neg (by omega), if_pos g, if_pos g, if_neg g2, if_neg g2]
  · rw [if_neg (by omega), if_neg g, if_neg g]
theorem rd_u19 (z : Int) : pm_up (rdS v k f o) 63 19 z = rdS v k f z := by
  funext c j
  show (if c = 63 ∧ j = 19 then z else if c = 63 then (if j = 16 then k else if j = 18 then f else if j = 19 then o else v c j) else v c j) = if c = 63 then (if j = 16 then k else if j = 18 then f else if j = 19 then z else v c j) else v c j
  by_cases g : c = 63
  · by_cases g2 : j = 19
    · rw [if_pos ⟨g, g2⟩, if_pos g, if_neg (by omega), if_neg (by omega), if_pos g2]
    · rw [if_neg (by omega), if_pos g, if_pos g, if_neg g2, if_neg g2]
  · rw [if_neg (by omega), if_neg g, if_neg g]
/-- what it reads: the tape (base below 0) or the text -/
def rdB (v : Nat → Nat → Int) (b : Nat → Int) (e : Nat) : Prop := v 63 17 = (e : Int) ∧ e ≤ 120 ∧ (∀ i, i < e → 0 ≤ b i ∧ b i ≤ 255) ∧ ((v 63 15 = -1 ∧ ∀ i, i < e → v 71 i = b i) ∨ (v 63 15 = 0 ∧ ∀ i, i < e → v 72 i = b i))
def byt (b : Nat → Int) (e k : Nat) : Int := if k < e then b k else 0
theorem mr_byteAt {k : Nat} (h : rdB v b e) : qE L xs (d + 1) nX12_byteAt [(2, 63)] (qS (rdS v (k : Int) f o)) = some (some (0, byt b e k), qS (rdS v (k : Int) f o)) := by
  obtain ⟨h1, h2, h3, h4⟩ := h
  unfold byt
  rw [e_X12_byteAt, b_X12_byteAt_0, rd_16, rd_ne (by omega), h1]
  by_cases g : k < e
  · rw [if_pos (by omega), if_pos g, b_X12_byteAt_11, rd_ne (by omega)]
    rcases h4 with ⟨h5, h6⟩ | ⟨h5, h6⟩
    · rw [if_pos (by omega), b_X12_byteAt_18, rd_16, if_pos (by omega), Int.toNat_natCast, rd_ne (by omega), h6 k g, b_X12_byteAt_27, b_X12_byteAt_48]
    · rw [if_neg (by omega), b_X12_byteAt_30, rd_16, rd_ne (by omega), h5, w32_id (by omega) (by omega), if_pos (by omega), show (0 + (k : Int)).toNat = k by omega, rd_ne (by omega), h6 k g, b_X12_byteAt_44, b_X12_byteAt_48]
  · rw [if_neg (by omega), if_neg g, b_X12_byteAt_47, b_X12_byteAt_48]
theorem mr_wrong : qE L xs (d + 1) nX12_wrong [(2, 63)] (qS (rdS v k f o)) = some (some (0, 0), qS (rdS v k (if f < 0 then k else f) o)) := by
  rw [e_X12_wrong, b_X12_wrong_0, rd_18]
  by_cases g : f < 0
  · rw [if_pos g, if_pos g, b_X12_wrong_8, rd_16, b_X12_wrong_19, rd_u18, b_X12_wrong_22]
  · rw [if_neg g, if_neg g, b_X12_wrong_15, rd_18, b_X12_wrong_19, rd_u18, b_X12_wrong_22]
theorem mr_takes {k : Nat} (h : rdB v b e) (c : Int) (hc : c ≠ 0) : qE L xs (d + 2) nX12_takes [(2, 63), (0, c)] (qS (rdS v (k : Int) f o)) = if f < 0 ∧ k < e ∧ b k = c then some (some (0, 1), qS (rdS v ((k : Int) + 1) f o)) else some (some (0, 0), qS (rdS v (k : Int) f o)) := by
  have he := h.2.1
  rw [e_X12_takes, b_X12_takes_0, rd_18]
  by_cases g : f < 0
  · rw [if_pos g, b_X12_takes_7, mr_byteAt h, qB_some, psh_some, b_X12_takes_11]
    unfold byt
    by_cases g2 : k < e
    · rw [if_pos g2]
      by_cases g3 : b k = c
      · rw [if_pos g3, if_pos ⟨g, g2, g3⟩, b_X12_takes_17, rd_16, w32_id (by omega) (by omega), rd_u16, b_X12_takes_27]
      · rw [if_neg g3, if_neg (fun q => g3 q.2.2), b_X12_takes_15]
    · rw [if_neg g2, if_neg (fun q => hc q.symm), if_neg (fun q => g2 q.2.1), b_X12_takes_15]
  · rw [if_neg g, if_neg (fun q => g q.1), b_X12_takes_15]
end OY3
end
section
/-! THE LAW as the reference reads it: names and numbers -/
section OZ3
variable {L : Nat} {xs : Nat → Int} {d : Nat} {v w : Nat → Nat → Int} {b : Nat → Int} {e : Nat} {f o : Int}
theorem mr_nameOf (x : Int) : qE L xs (d + 1) nX12_nameOf [(0, x)] (qS v) = some (some (0, nmI x), qS v) := by
  rw [e_X12_nameOf]
  unfold nmI
  by_cases h1 : x = 116
  · rw [if_pos h1, b_X12_nameOf_0_v116 (h := h1), b_X12_nameOf_60]
  · rw [if_neg h1]
    by_cases h2 : x = 119
    · rw [if_pos h2, b_X12_nameOf_0_v119 (h := h2), b_X12_nameOf_62]
    · rw [if_neg h2]
      by_cases h3 : x = 111
      · rw [if_pos h3, b_X12_nameOf_0_v111 (h := h3), b_X12_nameOf_64]
      · rw [if_neg h3]
        by_cases h4 : x = 115
        · rw [if_pos h4, b_X12_nameOf_0_v115 (h := h4), b_X12_nameOf_66]
        · rw [if_neg h4]
          by_cases h5 : x = 121
          · rw [if_pos h5, b_X12_nameOf_0_v121 (h := h5), b_X12_nameOf_68]
          · rw [if_neg h5]
            by_cases h6 : x = 100
            · rw [if_pos h6, b_X12_nameOf_0_v100 (h := h6), b_X12_nameOf_70]
            · rw [if_neg h6, b_X12_nameOf_0_o (h := by omega), b_X12_nameOf_72]
theorem mr_digits (h : rdB v b e) (x1 x2 : Int) : ∀ (n k : Nat) (z : Int), n ≤ 4 → k ≤ e → 0 ≤ z → z < 10 ^ (4 - n) → ∃ c : Int, (c = 4 - (n : Int) ↔ (rdNum b e n z k).2 = k) ∧ 4 - (n : Int) ≤ c ∧ qG L xs (d + 1) CX12_one 176 [(2, 63), (0, x1), (0, x2), (0, z), (0, 4 - (n : Int))] [] (qS (rdS v (k : Int) f o)) = qG L xs (d + 1) CX12_one 229 [(2, 63), (0, x1), (0, x2), (0, (rdNum b e n z k).1), (0, c)] [] (qS (rdS v ((rdNum b e n z k).2 : Int) f o))
  | 0, k, z, hn, hk, h0, hz => by
    refine ⟨4, ⟨fun _ => rfl, fun _ => by omega⟩, by omega, ?_⟩
    rw [b_X12_one_176, if_neg (by omega)]
    rfl
  | n + 1, k, z, hn, hk, h0, hz => by
    have he := h.2.1
    have z4 : z < 1000 := by
      have : n = 0 ∨ n = 1 ∨ n = 2 ∨ n = 3 := by omega
      rcases this with rfl | rfl | rfl | rfl
      · exact hz
      · have : z < 100 := hz
        omega
      · have : z < 10 := hz
        omega
      · have : z < 1 := hz
        omega
    rw [b_X12_one_176, if_pos (by omega), b_X12_one_182, mr_byteAt h, qB_some, psh_some, b_X12_one_186, b_X12_one_191, mr_byteAt h, qB_some, psh_some, b_X12_one_195]
    unfold rdNum byt
    by_cases g : k < e ∧ dgt (b k)
    · have p : (10 : Int) ^ (4 - n) = 10 * 10 ^ (4 - (n + 1)) := by
        rw [show 4 - n = (4 - (n + 1)) + 1 by omega, Int.pow_succ, Int.mul_comm]
      have dg := g.2
      unfold dgt at dg
      obtain ⟨c, c1, c2, c3⟩ := mr_digits h x1 x2 n (k + 1) (z * 10 + b k - 48) (by omega) (by omega) (by omega) (by rw [p]; omega)
      have le := rd_le (b := b) (e := e) n (z * 10 + b k - 48) (k + 1) (by omega)
      refine ⟨c, ⟨fun q => ?_, fun q => ?_⟩, by omega, ?_⟩
      · omega
      · rw [if_pos g] at q
        omega
      · have eb : byt b e k = b k := if_pos g.1
        rw [if_pos g.1, if_neg (by omega), if_neg (by omega), b_X12_one_200, mr_byteAt h, qB_some, psh_some, eb, b_X12_one_208, rd_16, w32_id (z := 10 * z) (by omega) (by omega), w32_id (z := 10 * z + b k) (by omega) (by omega), w32_id (z := 10 * z + b k - 48) (by omega) (by omega), w32_id (z := (k : Int) + 1) (by omega) (by omega), rd_u16, w32_id (by omega) (by omega), b_X12_one_226, if_pos g]
        rw [show ((k + 1 : Nat) : Int) = (k : Int) + 1 by omega, show z * 10 + b k - 48 = 10 * z + b k - 48 by omega, show 4 - (n : Int) = 4 - ((n + 1 : Nat) : Int) + 1 by omega] at c3
        rw [show z * 10 + b k - 48 = 10 * z + b k - 48 by omega]
        exact c3
    · refine ⟨4 - ((n + 1 : Nat) : Int), ⟨fun _ => by rw [if_neg g], fun _ => rfl⟩, by omega, ?_⟩
      rw [if_neg g]
      by_cases g1 : k < e
      · have ng : ¬ (48 ≤ b k ∧ b k ≤ 57) := fun q => g ⟨g1, q⟩
        rw [if_pos g1]
        by_cases g2 : b k < 48
        · rw [if_pos g2]
        · rw [if_neg g2, if_pos (by omega)]
      · rw [if_neg g1, if_pos (by omega)]
end OZ3
end
section
/-! THE LAW as the reference reads it: two joined -/
section OTA
variable {L : Nat} {xs : Nat → Int} {d : Nat} {v : Nat → Nat → Int}
theorem mr_or (a w : Int) (u2 : pm_V) : qG L xs d CX12_either 18 [(2, 63), (0, a), u2] [(0, w)] (qS v) = qG L xs d CX12_either 5 [(2, 63), (0, jn 124 a w), (0, w)] [] (qS v) := by
  have e : jn 124 a w = if a ≠ 0 ∨ w ≠ 0 then 1 else 0 := rfl
  rw [e, b_X12_either_18]
  by_cases h : a = 0
  · rw [if_pos h, b_X12_either_23]
    by_cases h2 : w = 0
    · rw [if_pos h2, b_X12_either_31, b_X12_either_32, if_neg (by omega)]
    · rw [if_neg h2, b_X12_either_27, b_X12_either_32, if_pos (Or.inr h2)]
  · rw [if_neg h, b_X12_either_27, b_X12_either_32, if_pos (Or.inl h)]
theorem mr_and (a w : Int) (u2 : pm_V) : qG L xs d CX12_both 18 [(2, 63), (0, a), u2] [(0, w)] (qS v) = qG L xs d CX12_both 5 [(2, 63), (0, jn 38 a w), (0, w)] [] (qS v) := by
  have e : jn 38 a w = if a ≠ 0 ∧ w ≠ 0 then 1 else 0 := rfl
  rw [e, b_X12_both_18]
  by_cases h : a = 0
  · rw [if_pos h, b_X12_both_31, b_X12_both_32, if_neg (by omega)]
  · rw [if_neg h, b_X12_both_23]
    by_cases h2 : w = 0
    · rw [if_pos h2, b_X12_both_31, b_X12_both_32, if_neg (by omega)]
    · rw [if_neg h2, b_X12_both_27, b_X12_both_32, if_pos ⟨h, h2⟩]
theorem mr_cmp (c a w : Int) (hc : c = 60 ∨ c = 61 ∨ c = 62) : qG L xs d CX12_compared 51 [(2, 63), (0, a), (0, c), (9, 0)] [(0, w)] (qS v) = some (some (0, jn c a w), qS v) := by
  rw [b_X12_compared_51]
  rcases hc with rfl | rfl | rfl
  · have e : jn 60 a w = if a < w then 1 else 0 := rfl
    rw [e, if_pos rfl, b_X12_compared_58]
    by_cases h : a < w
    · rw [if_pos h, if_pos h, b_X12_compared_63, b_X12_compared_85, b_X12_compared_90]
    · rw [if_neg h, if_neg h, b_X12_compared_89, b_X12_compared_90]
  · have e : jn 61 a w = if a = w then 1 else 0 := rfl
    rw [e, if_neg (by decide), b_X12_compared_66, if_pos rfl, b_X12_compared_72]
    by_cases h : a = w
    · rw [if_pos h, if_pos h, b_X12_compared_77, b_X12_compared_85, b_X12_compared_90]
    · rw [if_neg h, if_neg h, b_X12_compared_89, b_X12_compared_90]
  · have e : jn 62 a w = if w < a then 1 else 0 := rfl
    rw [e, if_neg (by decide), b_X12_compared_66, if_neg (by decide), b_X12_compared_80]
    by_cases h : w < a
    · rw [if_pos h, if_pos h, b_X12_compared_85, b_X12_compared_90]
    · rw [if_neg h, if_neg h, b_X12_compared_89, b_X12_compared_90]
theorem mr_sum (c a w : Int) (hc : c = 43 ∨ c = 45) (u3 : pm_V) : qG L xs d CX12_sums 59 [(2, 63), (0, a), (0, if c = 43 then 1 else 0), u3] [(0, w)] (qS v) = qG L xs d CX12_sums 5 [(2, 63), (0, jn c a w), (0, if c = 43 then 1 else 0), (0, w)] [] (qS v) := by
  rcases hc with rfl | rfl
  · have e : jn 43 a w = w32 (a + w) := rfl
    rw [e, if_pos rfl, b_X12_sums_59, if_neg (by decide), b_X12_sums_64, b_X12_sums_73]
  · have e : jn 45 a w = w32 (a - w) := rfl
    rw [e, if_neg (by decide), b_X12_sums_59, if_pos rfl, b_X12_sums_70, b_X12_sums_73]
theorem mr_prod (c a w : Int) (hc : c = 42 ∨ c = 47 ∨ c = 37) (u3 : pm_V) : qG L xs d CX12_product 49 [(2, 63), (0, a), (0, c), u3] [(0, w)] (qS v) = qG L xs d CX12_product 85 [(2, 63), (0, a), (0, c), (0, w)] [(0, jn c a w)] (qS v) := by
  rw [b_X12_product_49]
  rcases hc with rfl | rfl | rfl
  · have e : jn 42 a w = w32 (a * w) := rfl
    rw [e, if_pos rfl, b_X12_product_56]
  · have e : jn 47 a w = if w = 0 then 0 else w32 (Int.tdiv a w) := rfl
    rw [e, if_neg (by decide), b_X12_product_62]
    by_cases h : w = 0
    · rw [if_pos h, if_pos h, b_X12_product_66]
    · rw [if_neg h, if_neg h, b_X12_product_70, if_pos rfl, b_X12_product_76, if_neg h, b_X12_product_79]
  · have e : jn 37 a w = if w = 0 then 0 else Int.tmod a w := rfl
    rw [e, if_neg (by decide), b_X12_product_62]
    by_cases h : w = 0
    · rw [if_pos h, if_pos h, b_X12_product_66]
    · rw [if_neg h, if_neg h, b_X12_product_70, if_neg (by decide), b_X12_product_82, if_neg h]
end OTA
end
section
/-! THE LAW: a step of what is read, of what it is worth -/
section OTB
variable {b : Nat → Int} {e : Nat} {nm : Nat → Int} {n l o k : Nat} {f a : Int}
theorem tx_lev {m : Nat} (h : m < 5) : (txP b e (n + 1) m o k f).2 = (txP b e n (10 + m) o (txP b e n (m + 1) o k f).2.1 (txP b e n (m + 1) o k f).2.2).2 := by
  have : txP b e (n + 1) m o k f = ((txP b e n (m + 1) o k f).1 ++ (txP b e n (10 + m) o (txP b e n (m + 1) o k f).2.1 (txP b e n (m + 1) o k f).2.2).1, (txP b e n (10 + m) o (txP b e n (m + 1) o k f).2.1 (txP b e n (m + 1) o k f).2.2).2) := if_pos h
  rw [this]
theorem vp_lev {m : Nat} (h : m < 5) : vP b e nm (n + 1) m o k f a = vP b e nm n (10 + m) o (txP b e n (m + 1) o k f).2.1 (txP b e n (m + 1) o k f).2.2 (vP b e nm n (m + 1) o k f 0) := if_pos h
theorem tx_lp (h : l ≤ 4) : txP b e (n + 1) (10 + l) o k f = if f < 0 ∧ k < e ∧ sgn l (b k) then (if l = 2 then ((txP b e n (l + 1) o (k + 1) f).1 ++ [-(b k)], (txP b e n (l + 1) o (k + 1) f).2) else ((txP b e n (l + 1) o (k + 1) f).1 ++ -(b k) :: (txP b e n (10 + l) o (txP b e n (l + 1) o (k + 1) f).2.1 (txP b e n (l + 1) o (k + 1) f).2.2).1, (txP b e n (10 + l) o (txP b e n (l + 1) o (k + 1) f).2.1 (txP b e n (l + 1) o (k + 1) f).2.2).2)) else ([], k, f) := by
  have : l = 0 ∨ l = 1 ∨ l = 2 ∨ l = 3 ∨ l = 4 := by omega
  rcases this with rfl | rfl | rfl | rfl | rfl <;> rfl
theorem vp_lp (h : l ≤ 4) : vP b e nm (n + 1) (10 + l) o k f a = if f < 0 ∧ k < e ∧ sgn l (b k) then (if l = 2 then jn (b k) a (vP b e nm n (l + 1) o (k + 1) f 0) else vP b e nm n (10 + l) o (txP b e n (l + 1) o (k + 1) f).2.1 (txP b e n (l + 1) o (k + 1) f).2.2 (jn (b k) a (vP b e nm n (l + 1) o (k + 1) f 0))) else a := by
  have : l = 0 ∨ l = 1 ∨ l = 2 ∨ l = 3 ∨ l = 4 := by omega
  rcases this with rfl | rfl | rfl | rfl | rfl <;> rfl
theorem tx_lp_no (h : l ≤ 4) (q : ¬ (f < 0 ∧ k < e ∧ sgn l (b k))) : (txP b e (n + 1) (10 + l) o k f).2 = (k, f) := by
  rw [tx_lp h, if_neg q]
theorem vp_lp_no (h : l ≤ 4) (q : ¬ (f < 0 ∧ k < e ∧ sgn l (b k))) : vP b e nm (n + 1) (10 + l) o k f a = a := by
  rw [vp_lp h, if_neg q]
theorem tx_lp_yes (h : l ≤ 4) (h2 : l ≠ 2) (q : f < 0 ∧ k < e ∧ sgn l (b k)) : (txP b e (n + 1) (10 + l) o k f).2 = (txP b e n (10 + l) o (txP b e n (l + 1) o (k + 1) f).2.1 (txP b e n (l + 1) o (k + 1) f).2.2).2 := by
  rw [tx_lp h, if_pos q, if_neg h2]
theorem vp_lp_yes (h : l ≤ 4) (h2 : l ≠ 2) (q : f < 0 ∧ k < e ∧ sgn l (b k)) : vP b e nm (n + 1) (10 + l) o k f a = vP b e nm n (10 + l) o (txP b e n (l + 1) o (k + 1) f).2.1 (txP b e n (l + 1) o (k + 1) f).2.2 (jn (b k) a (vP b e nm n (l + 1) o (k + 1) f 0)) := by
  rw [vp_lp h, if_pos q, if_neg h2]
theorem tx_cmp (q : f < 0 ∧ k < e ∧ sgn 2 (b k)) : (txP b e (n + 1) 12 o k f).2 = (txP b e n 3 o (k + 1) f).2 := by
  rw [show (12 : Nat) = 10 + 2 from rfl, tx_lp (by omega), if_pos q, if_pos rfl]
theorem vp_cmp (q : f < 0 ∧ k < e ∧ sgn 2 (b k)) : vP b e nm (n + 1) 12 o k f a = jn (b k) a (vP b e nm n 3 o (k + 1) f 0) := by
  rw [show (12 : Nat) = 10 + 2 from rfl, vp_lp (by omega), if_pos q, if_pos rfl]
end OTB
end
section
/-! THE LAW as the reference reads it: all levels -/
section OTC
variable {L : Nat} {xs : Nat → Int} {d : Nat} {v : Nat → Nat → Int} {b : Nat → Int} {e : Nat} {nm : Nat → Int}
def mthR (m : Nat) : Nat := if m = 0 then nX12_either else if m = 1 then nX12_both else if m = 2 then nX12_compared else if m = 3 then nX12_sums else if m = 4 then nX12_product else nX12_one
/-- the loops -/
noncomputable def lpR (L : Nat) (xs : Nat → Int) (D l : Nat) (a c : Int) (u2 u3 : pm_V) (σ : pm_S) : Option pm_R :=
  if l = 0 then qG L xs D CX12_either 5 [(2, 63), (0, a), u2] [] σ else if l = 1 then qG L xs D CX12_both 5 [(2, 63), (0, a), u2] [] σ else if l = 2 then qG L xs D CX12_compared 4 [(2, 63), (9, 0), (9, 0), (9, 0)] [(0, a)] σ else if l = 3 then qG L xs D CX12_sums 5 [(2, 63), (0, a), u2, u3] [] σ else qG L xs D CX12_product 10 [(2, 63), (0, a), (0, c), u3] [] σ
def dpR (d o m : Nat) : Nat := d + (6 * (6 - o) + (6 - m) + 3)
def rdA (L : Nat) (xs : Nat → Int) (d : Nat) (v : Nat → Nat → Int) (b : Nat → Int) (e : Nat) (nm : Nat → Int) (n : Nat) : Prop :=
  ∀ (m o k : Nat) (f : Int), m ≤ 5 → o ≤ 6 → k ≤ e → f < 0 → 20 * (120 - k) + rkT m < n → ∃ o' : Int, ((txP b e n m o k f).2.2 < 0 → o' = o) ∧ qE L xs (dpR d o m) (mthR m) [(2, 63)] (qS (rdS v k f o)) = some (some (0, vP b e nm n m o k f 0), qS (rdS v (txP b e n m o k f).2.1 (txP b e n m o k f).2.2 o'))
def rdC (L : Nat) (xs : Nat → Int) (d : Nat) (v : Nat → Nat → Int) (b : Nat → Int) (e : Nat) (nm : Nat → Int) (n : Nat) : Prop :=
  ∀ (l o k : Nat) (f a z : Int) (u2 u3 : pm_V), l ≤ 4 → o ≤ 6 → k ≤ e → (f < 0 → z = o) → 20 * (120 - k) + rkT (10 + l) < n → ∃ o' : Int, ((txP b e n (10 + l) o k f).2.2 < 0 → o' = o) ∧ lpR L xs (dpR d o (l + 1)) l a (byt b e k) u2 u3 (qS (rdS v k f z)) = some (some (0, vP b e nm n (10 + l) o k f a), qS (rdS v (txP b e n (10 + l) o k f).2.1 (txP b e n (10 + l) o k f).2.2 o'))
theorem rk_lev {m : Nat} (h : m < 5) : rkT m = rkT (m + 1) + 2 ∧ rkT m = rkT (10 + m) + 1 := by
  have : m = 0 ∨ m = 1 ∨ m = 2 ∨ m = 3 ∨ m = 4 := by omega
  rcases this with rfl | rfl | rfl | rfl | rfl <;> exact ⟨rfl, rfl⟩
theorem dp_lev {d o m : Nat} (h : m < 5) : dpR d o m = dpR d o (m + 1) + 1 := by
  unfold dpR
  omega
/-- a level: the next one, then its loop -/
theorem rd_level (h : rdB v b e) {n m o k : Nat} {f : Int} (hA : rdA L xs d v b e nm n) (hC : rdC L xs d v b e nm n) (hm : m < 5) (ho : o ≤ 6) (hk : k ≤ e) (hf : f < 0) (hn : 20 * (120 - k) + rkT m < n + 1) : ∃ o' : Int, ((txP b e (n + 1) m o k f).2.2 < 0 → o' = o) ∧ qE L xs (dpR d o m) (mthR m) [(2, 63)] (qS (rdS v k f o)) = some (some (0, vP b e nm (n + 1) m o k f 0), qS (rdS v (txP b e (n + 1) m o k f).2.1 (txP b e (n + 1) m o k f).2.2 o')) := by
  have rk := rk_lev hm
  obtain ⟨o1, p1, p2⟩ := hA (m + 1) o k f (by omega) ho hk hf (by omega)
  have le := txP_le (b := b) (e := e) n (m + 1) o k f hk
  obtain ⟨o2, q1, q2⟩ := hC m o (txP b e n (m + 1) o k f).2.1 (txP b e n (m + 1) o k f).2.2 (vP b e nm n (m + 1) o k f 0) o1 (9, 0) (9, 0) (by omega) ho le.2.1 p1 (by omega)
  refine ⟨o2, ?_, ?_⟩
  · rw [tx_lev hm]
    exact q1
  · rw [tx_lev hm, vp_lev hm, ← q2, dp_lev hm]
    have : m = 0 ∨ m = 1 ∨ m = 2 ∨ m = 3 ∨ m = 4 := by omega
    rcases this with rfl | rfl | rfl | rfl | rfl
    · show qE L xs (dpR d o 1 + 1) nX12_either _ _ = qG L xs (dpR d o 1) CX12_either 5 _ _ _
      rw [e_X12_either, b_X12_either_0, show qE L xs (dpR d o 1) nX12_both [(2, 63)] (qS (rdS v k f o)) = _ from p2, qB_some, psh_some, b_X12_either_4]
    · show qE L xs (dpR d o 2 + 1) nX12_both _ _ = qG L xs (dpR d o 2) CX12_both 5 _ _ _
      rw [e_X12_both, b_X12_both_0, show qE L xs (dpR d o 2) nX12_compared [(2, 63)] (qS (rdS v k f o)) = _ from p2, qB_some, psh_some, b_X12_both_4]
    · show qE L xs (dpR d o 3 + 1) nX12_compared _ _ = qG L xs (dpR d o 3) CX12_compared 4 _ _ _
      rw [e_X12_compared, b_X12_compared_0, show qE L xs (dpR d o 3) nX12_sums [(2, 63)] (qS (rdS v k f o)) = _ from p2, qB_some, psh_some]
    · show qE L xs (dpR d o 4 + 1) nX12_sums _ _ = qG L xs (dpR d o 4) CX12_sums 5 _ _ _
      rw [e_X12_sums, b_X12_sums_0, show qE L xs (dpR d o 4) nX12_product [(2, 63)] (qS (rdS v k f o)) = _ from p2, qB_some, psh_some, b_X12_sums_4]
    · show qE L xs (dpR d o 5 + 1) nX12_product _ _ = qG L xs (dpR d o 5) CX12_product 10 _ _ _
      rw [e_X12_product, b_X12_product_0, show qE L xs (dpR d o 5) nX12_one [(2, 63)] (qS (rdS v k f o)) = _ from p2, qB_some, psh_some, b_X12_product_4, show dpR d o 5 = (d + (6 * (6 - o) + 3)) + 1 by unfold dpR; omega, mr_byteAt h, qB_some, psh_some, b_X12_product_9]
end OTC
end
section
/-! THE LAW as the reference reads it: the loops of the levels -/
section OTD
variable {L : Nat} {xs : Nat → Int} {d : Nat} {v : Nat → Nat → Int} {b : Nat → Int} {e : Nat} {nm : Nat → Int}
theorem sg_0 (x : Int) : sgn 0 x ↔ x = 124 := by unfold sgn; omega
theorem sg_1 (x : Int) : sgn 1 x ↔ x = 38 := by unfold sgn; omega
theorem sg_2 (x : Int) : sgn 2 x ↔ x = 60 ∨ x = 61 ∨ x = 62 := by unfold sgn; omega
theorem sg_3 (x : Int) : sgn 3 x ↔ x = 43 ∨ x = 45 := by unfold sgn; omega
theorem sg_4 (x : Int) : sgn 4 x ↔ x = 42 ∨ x = 47 ∨ x = 37 := by unfold sgn; omega
theorem rk_step {k K R n : Nat} (h : k + 1 ≤ K) (hk : k < 120) (hn : 20 * (120 - k) + R < n + 1) : 20 * (120 - K) + R < n := by omega
theorem dp_2 (d o l : Nat) : ∃ D, dpR d o l = D + 2 := ⟨dpR d o l - 2, by unfold dpR; omega⟩
theorem rd_loop (h : rdB v b e) {n : Nat} (hA : rdA L xs d v b e nm n) (hC : rdC L xs d v b e nm n) : rdC L xs d v b e nm (n + 1) := by
  intro l o k f a z u2 u3 hl ho hk hz hn
  have he := h.2.1
  obtain ⟨D, hD⟩ := dp_2 d o (l + 1)
  by_cases q : f < 0 ∧ k < e ∧ sgn l (b k)
  · have rk1 : 20 * (120 - (k + 1)) + rkT (l + 1) < n := by
      have : l = 0 ∨ l = 1 ∨ l = 2 ∨ l = 3 ∨ l = 4 := by omega
      rcases this with rfl | rfl | rfl | rfl | rfl
      · have e1 : rkT 1 = 10 := rfl
        rw [e1]; omega
      · have e1 : rkT 2 = 8 := rfl
        rw [e1]; omega
      · have e1 : rkT 3 = 6 := rfl
        rw [e1]; omega
      · have e1 : rkT 4 = 4 := rfl
        rw [e1]; omega
      · have e1 : rkT 5 = 2 := rfl
        rw [e1]; omega
    obtain ⟨o1, p1, p2⟩ := hA (l + 1) o (k + 1) f (by omega) ho (by omega) q.1 rk1
    rw [show ((k + 1 : Nat) : Int) = (k : Int) + 1 by omega] at p2
    have le := txP_le (b := b) (e := e) n (l + 1) o (k + 1) f (by omega)
    have hz2 := hz q.1
    subst hz2
    have bk : byt b e k = b k := if_pos q.2.1
    have wk : w32 ((k : Int) + 1) = (k : Int) + 1 := w32_id (by omega) (by omega)
    by_cases l2 : l = 2
    · subst l2
      refine ⟨o1, fun hh => p1 (by rw [tx_cmp q] at hh; exact hh), ?_⟩
      rw [show 10 + 2 = 12 from rfl, tx_cmp q, vp_cmp q]
      show qG L xs (dpR d o 3) CX12_compared 4 [(2, 63), (9, 0), (9, 0), (9, 0)] [(0, a)] _ = _
      have c := (sg_2 (b k)).mp q.2.2
      have p2' : qE L xs (dpR d o 3) nX12_sums [(2, 63)] (qS (rdS v ((k : Int) + 1) f o)) = _ := p2
      have st : qG L xs (dpR d o 3) CX12_compared 17 [(2, 63), (0, a), (0, b k), (9, 0)] [] (qS (rdS v k f o)) = qG L xs (dpR d o 3) CX12_compared 37 [(2, 63), (0, a), (0, b k), (9, 0)] [] (qS (rdS v k f o)) := by
        rw [b_X12_compared_17]
        by_cases c1 : b k = 60
        · rw [if_pos c1]
        · rw [if_neg c1, b_X12_compared_23]
          by_cases c2 : b k = 61
          · rw [if_pos c2]
          · rw [if_neg c2, b_X12_compared_29, if_pos (by omega)]
      have by1 : qE L xs (dpR d o 3) nX12_byteAt [(2, 63)] (qS (rdS v (k : Int) f o)) = some (some (0, byt b e k), qS (rdS v (k : Int) f o)) := by
        rw [hD, show D + 2 = (D + 1) + 1 from rfl]
        exact mr_byteAt h
      rw [b_X12_compared_4, by1, qB_some, psh_some, bk, b_X12_compared_9, rd_18, if_pos q.1, st, b_X12_compared_37, rd_16, wk, rd_u16, b_X12_compared_47, p2', qB_some, psh_some, mr_cmp _ _ _ c]
    · have rk2 : 20 * (120 - (txP b e n (l + 1) o (k + 1) f).2.1) + rkT (10 + l) < n := rk_step le.1 (Nat.lt_of_lt_of_le q.2.1 he) hn
      have ihl := fun (u2' u3' : pm_V) => hC l o (txP b e n (l + 1) o (k + 1) f).2.1 (txP b e n (l + 1) o (k + 1) f).2.2 (jn (b k) a (vP b e nm n (l + 1) o (k + 1) f 0)) o1 u2' u3' hl ho le.2.1 p1 rk2
      rw [tx_lp_yes hl l2 q, vp_lp_yes hl l2 q]
      generalize hw : vP b e nm n (l + 1) o (k + 1) f 0 = w at *
      have : l = 0 ∨ l = 1 ∨ l = 3 ∨ l = 4 := by omega
      rcases this with rfl | rfl | rfl | rfl
      · obtain ⟨o2, q1, q2⟩ := ihl (0, w) u3
        refine ⟨o2, q1, ?_⟩
        rw [← q2]
        have c := (sg_0 (b k)).mp q.2.2
        have p2' : qE L xs (dpR d o 1) nX12_both [(2, 63)] (qS (rdS v ((k : Int) + 1) f o)) = _ := p2
        have tk : qE L xs (dpR d o 1) nX12_takes [(2, 63), (0, 124)] (qS (rdS v (k : Int) f o)) = some (some (0, 1), qS (rdS v ((k : Int) + 1) f o)) := by
          rw [hD, mr_takes h 124 (by decide), if_pos ⟨q.1, q.2.1, c⟩]
        show qG L xs (dpR d o 1) CX12_either 5 [(2, 63), (0, a), u2] [] _ = qG L xs (dpR d o 1) CX12_either 5 _ [] _
        rw [b_X12_either_5, tk, qB_some, psh_some, b_X12_either_11, if_neg (by decide), b_X12_either_14, p2', qB_some, psh_some, mr_or, c]
      · obtain ⟨o2, q1, q2⟩ := ihl (0, w) u3
        refine ⟨o2, q1, ?_⟩
        rw [← q2]
        have c := (sg_1 (b k)).mp q.2.2
        have p2' : qE L xs (dpR d o 2) nX12_compared [(2, 63)] (qS (rdS v ((k : Int) + 1) f o)) = _ := p2
        have tk : qE L xs (dpR d o 2) nX12_takes [(2, 63), (0, 38)] (qS (rdS v (k : Int) f o)) = some (some (0, 1), qS (rdS v ((k : Int) + 1) f o)) := by
          rw [hD, mr_takes h 38 (by decide), if_pos ⟨q.1, q.2.1, c⟩]
        show qG L xs (dpR d o 2) CX12_both 5 [(2, 63), (0, a), u2] [] _ = qG L xs (dpR d o 2) CX12_both 5 _ [] _
        rw [b_X12_both_5, tk, qB_some, psh_some, b_X12_both_11, if_neg (by decide), b_X12_both_14, p2', qB_some, psh_some, mr_and, c]
      · obtain ⟨o2, q1, q2⟩ := ihl (0, if b k = 43 then 1 else 0) (0, w)
        refine ⟨o2, q1, ?_⟩
        rw [← q2]
        have c := (sg_3 (b k)).mp q.2.2
        have p2' : qE L xs (dpR d o 4) nX12_product [(2, 63)] (qS (rdS v ((k : Int) + 1) f o)) = _ := p2
        have by1 : qE L xs (dpR d o 4) nX12_byteAt [(2, 63)] (qS (rdS v (k : Int) f o)) = some (some (0, b k), qS (rdS v (k : Int) f o)) := by
          rw [hD, show D + 2 = (D + 1) + 1 from rfl, mr_byteAt h, bk]
        have st : qG L xs (dpR d o 4) CX12_sums 16 [(2, 63), (0, a), u2, u3] [(0, b k)] (qS (rdS v k f o)) = qG L xs (dpR d o 4) CX12_sums 55 [(2, 63), (0, a), (0, if b k = 43 then 1 else 0), u3] [] (qS (rdS v ((k : Int) + 1) f o)) := by
          rw [b_X12_sums_16]
          by_cases c1 : b k = 43
          · rw [if_pos c1, if_pos c1, b_X12_sums_30, by1, qB_some, psh_some, b_X12_sums_34, if_pos c1, b_X12_sums_39, b_X12_sums_44, rd_16, wk, rd_u16]
          · rw [if_neg c1, if_neg c1, b_X12_sums_21, by1, qB_some, psh_some, b_X12_sums_25, if_pos (by omega), b_X12_sums_30, by1, qB_some, psh_some, b_X12_sums_34, if_neg c1, b_X12_sums_43, b_X12_sums_44, rd_16, wk, rd_u16]
        show qG L xs (dpR d o 4) CX12_sums 5 [(2, 63), (0, a), u2, u3] [] _ = qG L xs (dpR d o 4) CX12_sums 5 _ [] _
        rw [b_X12_sums_5, rd_18, if_pos q.1, b_X12_sums_12, by1, qB_some, psh_some, st, b_X12_sums_55, p2', qB_some, psh_some, mr_sum _ _ _ c]
      · obtain ⟨o2, q1, q2⟩ := ihl u2 (0, w)
        refine ⟨o2, q1, ?_⟩
        rw [← q2]
        have c := (sg_4 (b k)).mp q.2.2
        have p2' : qE L xs (dpR d o 5) nX12_one [(2, 63)] (qS (rdS v ((k : Int) + 1) f o)) = _ := p2
        have st : qG L xs (dpR d o 5) CX12_product 17 [(2, 63), (0, a), (0, b k), u3] [] (qS (rdS v k f o)) = qG L xs (dpR d o 5) CX12_product 35 [(2, 63), (0, a), (0, b k), u3] [] (qS (rdS v k f o)) := by
          rw [b_X12_product_17]
          by_cases c1 : b k = 42
          · rw [if_pos c1]
          · rw [if_neg c1, b_X12_product_23]
            by_cases c2 : b k = 47
            · rw [if_pos c2]
            · rw [if_neg c2, b_X12_product_29, if_pos (by omega)]
        have by2 : qE L xs (dpR d o 5) nX12_byteAt [(2, 63)] (qS (rdS v ((txP b e n 5 o (k + 1) f).2.1 : Int) (txP b e n 5 o (k + 1) f).2.2 o1)) = some (some (0, byt b e (txP b e n 5 o (k + 1) f).2.1), qS (rdS v ((txP b e n 5 o (k + 1) f).2.1 : Int) (txP b e n 5 o (k + 1) f).2.2 o1)) := by
          rw [hD, show D + 2 = (D + 1) + 1 from rfl]
          exact mr_byteAt h
        show qG L xs (dpR d o 5) CX12_product 10 [(2, 63), (0, a), (0, byt b e k), u3] [] _ = qG L xs (dpR d o 5) CX12_product 10 _ [] _
        rw [bk, b_X12_product_10, rd_18, if_pos q.1, st, b_X12_product_35, rd_16, wk, rd_u16, b_X12_product_45, p2', qB_some, psh_some, mr_prod _ _ _ c, b_X12_product_85, by2, qB_some, psh_some, b_X12_product_90]
  · refine ⟨z, fun hh => hz (by rw [tx_lp_no hl q] at hh; exact hh), ?_⟩
    rw [tx_lp_no hl q, vp_lp_no hl q]
    have by1 : qE L xs (dpR d o (l + 1)) nX12_byteAt [(2, 63)] (qS (rdS v (k : Int) f z)) = some (some (0, byt b e k), qS (rdS v (k : Int) f z)) := by
      rw [hD, show D + 2 = (D + 1) + 1 from rfl]
      exact mr_byteAt h
    have nb : f < 0 → ¬ sgn l (byt b e k) := fun hf hs => by
      unfold byt at hs
      by_cases g : k < e
      · rw [if_pos g] at hs
        exact q ⟨hf, g, hs⟩
      · rw [if_neg g] at hs
        unfold sgn at hs
        omega
    have : l = 0 ∨ l = 1 ∨ l = 2 ∨ l = 3 ∨ l = 4 := by omega
    rcases this with rfl | rfl | rfl | rfl | rfl
    · have tk : qE L xs (dpR d o 1) nX12_takes [(2, 63), (0, 124)] (qS (rdS v (k : Int) f z)) = some (some (0, 0), qS (rdS v (k : Int) f z)) := by
        rw [hD, mr_takes h 124 (by decide), if_neg (fun t => q ⟨t.1, t.2.1, (sg_0 _).mpr t.2.2⟩)]
      show qG L xs (dpR d o 1) CX12_either 5 [(2, 63), (0, a), u2] [] _ = _
      rw [b_X12_either_5, tk, qB_some, psh_some, b_X12_either_11, if_pos rfl, b_X12_either_36]
    · have tk : qE L xs (dpR d o 2) nX12_takes [(2, 63), (0, 38)] (qS (rdS v (k : Int) f z)) = some (some (0, 0), qS (rdS v (k : Int) f z)) := by
        rw [hD, mr_takes h 38 (by decide), if_neg (fun t => q ⟨t.1, t.2.1, (sg_1 _).mpr t.2.2⟩)]
      show qG L xs (dpR d o 2) CX12_both 5 [(2, 63), (0, a), u2] [] _ = _
      rw [b_X12_both_5, tk, qB_some, psh_some, b_X12_both_11, if_pos rfl, b_X12_both_36]
    · show qG L xs (dpR d o 3) CX12_compared 4 [(2, 63), (9, 0), (9, 0), (9, 0)] [(0, a)] _ = _
      rw [b_X12_compared_4, show qE L xs (dpR d o 3) nX12_byteAt [(2, 63)] (qS (rdS v (k : Int) f z)) = _ from by1, qB_some, psh_some, b_X12_compared_9, rd_18]
      by_cases g : f < 0
      · have nb2 := nb g
        rw [sg_2] at nb2
        rw [if_pos g, b_X12_compared_17, if_neg (by omega), b_X12_compared_23, if_neg (by omega), b_X12_compared_29, if_neg (by omega), b_X12_compared_35]
      · rw [if_neg g, b_X12_compared_35]
    · show qG L xs (dpR d o 4) CX12_sums 5 [(2, 63), (0, a), u2, u3] [] _ = _
      rw [b_X12_sums_5, rd_18]
      by_cases g : f < 0
      · have nb2 := nb g
        rw [sg_3] at nb2
        have by2 : qE L xs (dpR d o 4) nX12_byteAt [(2, 63)] (qS (rdS v (k : Int) f z)) = some (some (0, byt b e k), qS (rdS v (k : Int) f z)) := by1
        rw [if_pos g, b_X12_sums_12, by2, qB_some, psh_some, b_X12_sums_16, if_neg (by omega), b_X12_sums_21, by2, qB_some, psh_some, b_X12_sums_25, if_neg (by omega), b_X12_sums_77]
      · rw [if_neg g, b_X12_sums_77]
    · show qG L xs (dpR d o 5) CX12_product 10 [(2, 63), (0, a), (0, byt b e k), u3] [] _ = _
      rw [b_X12_product_10, rd_18]
      by_cases g : f < 0
      · have nb2 := nb g
        rw [sg_4] at nb2
        rw [if_pos g, b_X12_product_17, if_neg (by omega), b_X12_product_23, if_neg (by omega), b_X12_product_29, if_neg (by omega), b_X12_product_94]
      · rw [if_neg g, b_X12_product_94]
end OTD
end
section
/-! THE LAW as the reference reads it: operands; all of it -/
section OTE
variable {L : Nat} {xs : Nat → Int} {d : Nat} {v : Nat → Nat → Int} {b : Nat → Int} {e : Nat} {nm : Nat → Int}
theorem tx_op {n o k : Nat} {f : Int} (f0 : f < 0) : txP b e (n + 1) 5 o k f = (if k < e then
          (if 0 ≤ nmI (b k) then ([-1 - nmI (b k)], k + 1, f)
          else if dgt (b k) then ([(rdNum b e 4 0 k).1], (rdNum b e 4 0 k).2, f)
          else if o < 6 ∧ b k = 40 then
            (if (txP b e n 0 (o + 1) (k + 1) f).2.2 < 0 ∧ (txP b e n 0 (o + 1) (k + 1) f).2.1 < e ∧ b (txP b e n 0 (o + 1) (k + 1) f).2.1 = 41 then ((txP b e n 0 (o + 1) (k + 1) f).1, (txP b e n 0 (o + 1) (k + 1) f).2.1 + 1, (txP b e n 0 (o + 1) (k + 1) f).2.2)
            else ((txP b e n 0 (o + 1) (k + 1) f).1, (txP b e n 0 (o + 1) (k + 1) f).2.1, if (txP b e n 0 (o + 1) (k + 1) f).2.2 < 0 then ((txP b e n 0 (o + 1) (k + 1) f).2.1 : Int) else (txP b e n 0 (o + 1) (k + 1) f).2.2))
          else if o < 6 ∧ (b k = 33 ∨ b k = 45) then ((txP b e n 5 (o + 1) (k + 1) f).1 ++ [if b k = 45 then -126 else -33], (txP b e n 5 (o + 1) (k + 1) f).2)
          else ([], k, (k : Int)))
        else ([], k, (k : Int))) := by
  have : txP b e (n + 1) 5 o k f = if f < 0 then _ else _ := rfl
  rw [this, if_pos f0]
theorem vp_op {n o k : Nat} {f a : Int} (f0 : f < 0) : vP b e nm (n + 1) 5 o k f a = (if k < e then
          (if 0 ≤ nmI (b k) then nm (nmI (b k)).toNat
          else if dgt (b k) then (rdNum b e 4 0 k).1
          else if o < 6 ∧ b k = 40 then
            (if (txP b e n 0 (o + 1) (k + 1) f).2.2 < 0 ∧ (txP b e n 0 (o + 1) (k + 1) f).2.1 < e ∧ b (txP b e n 0 (o + 1) (k + 1) f).2.1 = 41 then vP b e nm n 0 (o + 1) (k + 1) f 0 else 0)
          else if o < 6 ∧ (b k = 33 ∨ b k = 45) then (if b k = 45 then w32 (-(vP b e nm n 5 (o + 1) (k + 1) f 0)) else if vP b e nm n 5 (o + 1) (k + 1) f 0 = 0 then 1 else 0)
          else 0)
        else 0) := by
  have : vP b e nm (n + 1) 5 o k f a = if f < 0 then _ else _ := rfl
  rw [this, if_pos f0]
theorem nm_no {x : Int} (h : x = 33 ∨ x = 45 ∨ x = 40 ∨ x = 0 ∨ (48 ≤ x ∧ x ≤ 57)) : nmI x = -1 := by
  unfold nmI
  rw [if_neg (by omega), if_neg (by omega), if_neg (by omega), if_neg (by omega), if_neg (by omega), if_neg (by omega)]
theorem nm_yes {x : Int} (h : 0 ≤ nmI x) : x ≠ 33 ∧ x ≠ 45 ∧ x ≠ 40 := by
  refine ⟨fun q => ?_, fun q => ?_, fun q => ?_⟩
  · rw [nm_no (Or.inl q)] at h
    omega
  · rw [nm_no (Or.inr (Or.inl q))] at h
    omega
  · rw [nm_no (Or.inr (Or.inr (Or.inl q)))] at h
    omega
theorem dp_5 (d o : Nat) : dpR d o 5 = d + 6 * (6 - o) + 4 := by
  unfold dpR
  omega
theorem rd_operand (h : rdB v b e) (hn6 : ∀ i, i < 6 → v 73 i = nm i) {n o k : Nat} {f : Int} (hA : ∀ d, rdA L xs d v b e nm n) (ho : o ≤ 6) (hk : k ≤ e) (hf : f < 0) (hn : 20 * (120 - k) + 2 < n + 1) : ∃ o' : Int, ((txP b e (n + 1) 5 o k f).2.2 < 0 → o' = o) ∧ qE L xs (dpR d o 5) nX12_one [(2, 63)] (qS (rdS v k f o)) = some (some (0, vP b e nm (n + 1) 5 o k f 0), qS (rdS v (txP b e (n + 1) 5 o k f).2.1 (txP b e (n + 1) 5 o k f).2.2 o')) := by
  have he := h.2.1
  have wk : w32 ((k : Int) + 1) = (k : Int) + 1 := w32_id (by omega) (by omega)
  obtain ⟨D, hD⟩ : ∃ D, dpR d o 5 = D + 4 := ⟨d + 6 * (6 - o), dp_5 d o⟩
  have by1 : ∀ o0 : Int, qE L xs (D + 3) nX12_byteAt [(2, 63)] (qS (rdS v (k : Int) f o0)) = some (some (0, byt b e k), qS (rdS v (k : Int) f o0)) := fun o0 => mr_byteAt h
  have st : qE L xs (dpR d o 5) nX12_one [(2, 63)] (qS (rdS v k f o)) = if byt b e k = 33 then qG L xs (D + 3) CX12_one 32 [(2, 63), (0, byt b e k), (9, 0), (9, 0), (9, 0)] [] (qS (rdS v k f o)) else if byt b e k = 45 then qG L xs (D + 3) CX12_one 32 [(2, 63), (0, byt b e k), (9, 0), (9, 0), (9, 0)] [] (qS (rdS v k f o)) else if byt b e k = 40 then qG L xs (D + 3) CX12_one 32 [(2, 63), (0, byt b e k), (9, 0), (9, 0), (9, 0)] [] (qS (rdS v k f o)) else qG L xs (D + 3) CX12_one 145 [(2, 63), (0, byt b e k), (9, 0), (9, 0), (9, 0)] [] (qS (rdS v k f o)) := by
    rw [hD, e_X12_one, b_X12_one_0, rd_18, if_pos hf, b_X12_one_9, by1, qB_some, psh_some, b_X12_one_13, b_X12_one_20, b_X12_one_26]
  -- neither a name nor a number nor a sign
  have bad : ∀ c : Int, nmI c = -1 → ((rdNum b e 4 0 k).2 = k ∧ (rdNum b e 4 0 k).1 = 0) → qG L xs (D + 3) CX12_one 145 [(2, 63), (0, c), (9, 0), (9, 0), (9, 0)] [] (qS (rdS v k f o)) = some (some (0, 0), qS (rdS v k (k : Int) o)) := fun c hc hr => by
    obtain ⟨c0, c1, c2, c3⟩ := mr_digits (L := L) (xs := xs) (d := D + 2) (f := f) (o := (o : Int)) h c (-1) 4 k 0 (by omega) hk (by omega) (by decide)
    have c0z : c0 = 0 := c1.mpr hr.1
    rw [hr.1, hr.2, c0z] at c3
    rw [b_X12_one_145, show D + 3 = (D + 2) + 1 from rfl, mr_nameOf, hc, qB_some, psh_some, b_X12_one_149, if_pos (by omega), b_X12_one_171]
    refine Eq.trans c3 ?_
    rw [b_X12_one_229, if_pos rfl, b_X12_one_234, mr_wrong, if_pos hf, qB_some, psh_some, b_X12_one_238, b_X12_one_242]
  -- too many are open
  have full : ∀ c : Int, o = 6 → qG L xs (D + 3) CX12_one 32 [(2, 63), (0, c), (9, 0), (9, 0), (9, 0)] [] (qS (rdS v k f o)) = some (some (0, 0), qS (rdS v k (k : Int) o)) := fun c h6 => by
    rw [b_X12_one_32, rd_19, if_pos (by omega), b_X12_one_41, show D + 3 = (D + 2) + 1 from rfl, mr_wrong, if_pos hf, qB_some, psh_some, b_X12_one_45]
  -- one more is opened
  have open1 : ∀ c : Int, o < 6 → qG L xs (D + 3) CX12_one 32 [(2, 63), (0, c), (9, 0), (9, 0), (9, 0)] [] (qS (rdS v k f o)) = qG L xs (D + 3) CX12_one 66 [(2, 63), (0, c), (9, 0), (9, 0), (9, 0)] [] (qS (rdS v ((k : Int) + 1) f ((o : Int) + 1))) := fun c h6 => by
    rw [b_X12_one_32, rd_19, if_neg (by omega), b_X12_one_46, rd_19, w32_id (z := (o : Int) + 1) (by omega) (by omega), rd_u19, b_X12_one_56, rd_16, wk, rd_u16]
  rw [st]
  by_cases hk2 : k < e
  · have bk : byt b e k = b k := if_pos hk2
    rw [bk]
    by_cases q1 : 0 ≤ nmI (b k)
    · obtain ⟨n1, n2, n3⟩ := nm_yes q1
      have nr := nmI_r (b k)
      refine ⟨o, fun _ => rfl, ?_⟩
      rw [tx_op hf, vp_op hf, if_pos hk2, if_pos hk2, if_pos q1, if_pos q1, if_neg n1, if_neg n2, if_neg n3, b_X12_one_145, show D + 3 = (D + 2) + 1 from rfl, mr_nameOf, qB_some, psh_some, b_X12_one_149, if_neg (by omega), b_X12_one_154, rd_16, wk, rd_u16, b_X12_one_164, if_pos (by omega), rd_ne (by omega), hn6 _ (by omega), b_X12_one_170]
      rfl
    · by_cases q2 : dgt (b k)
      · have hd : 48 ≤ b k ∧ b k ≤ 57 := q2
        have rl := rd_lt (b := b) (e := e) k hk2 q2
        obtain ⟨c0, c1, c2, c3⟩ := mr_digits (L := L) (xs := xs) (d := D + 2) (f := f) (o := (o : Int)) h (b k) (-1) 4 k 0 (by omega) hk (by omega) (by decide)
        have c0z : ¬ c0 = 0 := fun z => by
          have := c1.mp z
          omega
        refine ⟨o, fun _ => rfl, ?_⟩
        rw [tx_op hf, vp_op hf, if_pos hk2, if_pos hk2, if_neg q1, if_neg q1, if_pos q2, if_pos q2, if_neg (by omega), if_neg (by omega), if_neg (by omega), b_X12_one_145, show D + 3 = (D + 2) + 1 from rfl, mr_nameOf, nm_no (by omega), qB_some, psh_some, b_X12_one_149, if_pos (by omega), b_X12_one_171]
        refine Eq.trans c3 ?_
        rw [b_X12_one_229, if_neg c0z, b_X12_one_241, b_X12_one_242]
      · have nd : ¬ (48 ≤ b k ∧ b k ≤ 57) := q2
        have rz : (rdNum b e 4 0 k).2 = k ∧ (rdNum b e 4 0 k).1 = 0 := by
          have : rdNum b e 4 0 k = (0, k) := if_neg (fun z => q2 z.2)
          rw [this]
          exact ⟨rfl, rfl⟩
        have nr := nmI_r (b k)
        by_cases q3 : o < 6 ∧ b k = 40
        · obtain ⟨o1, p1, p2⟩ := hA d 0 (o + 1) (k + 1) f (by omega) (by omega) (by omega) hf (by have : rkT 0 = 12 := rfl; rw [this]; omega)
          rw [show ((k + 1 : Nat) : Int) = (k : Int) + 1 by omega, show ((o + 1 : Nat) : Int) = (o : Int) + 1 by omega] at p2
          have dd : dpR d (o + 1) 0 = D + 3 := by
            have := dp_5 d o
            unfold dpR at this hD ⊢
            omega
          have p2' : qE L xs (D + 3) nX12_either [(2, 63)] (qS (rdS v ((k : Int) + 1) f ((o : Int) + 1))) = _ := dd ▸ p2
          rw [tx_op hf, vp_op hf, if_pos hk2, if_pos hk2, if_neg q1, if_neg q1, if_neg q2, if_neg q2, if_pos q3, if_pos q3, if_neg (show ¬ b k = 33 by omega), if_neg (show ¬ b k = 45 by omega), if_pos q3.2, open1 _ q3.1, b_X12_one_66, if_pos q3.2, b_X12_one_72, p2', qB_some, psh_some, b_X12_one_76, b_X12_one_83, if_pos q3.2, b_X12_one_90, show D + 3 = (D + 1) + 2 from rfl, mr_takes h 41 (by decide)]
          by_cases q4 : (txP b e n 0 (o + 1) (k + 1) f).2.2 < 0 ∧ (txP b e n 0 (o + 1) (k + 1) f).2.1 < e ∧ b (txP b e n 0 (o + 1) (k + 1) f).2.1 = 41
          · have o1e := p1 q4.1
            rw [if_pos q4, if_pos q4, if_pos q4]
            refine ⟨o, fun _ => rfl, ?_⟩
            rw [qB_some, psh_some, b_X12_one_96, if_neg (by decide), b_X12_one_104, rd_19, o1e, w32_id (by omega) (by omega), rd_u19, b_X12_one_114, if_pos q3.2, b_X12_one_120, b_X12_one_144, show ((o + 1 : Nat) : Int) - 1 = (o : Int) by omega]
            rfl
          · rw [if_neg q4, if_neg q4, if_neg q4]
            refine ⟨o1, fun hh => ?_, ?_⟩
            · dsimp only at hh
              split at hh <;> omega
            · rw [qB_some, psh_some, b_X12_one_96, if_pos rfl, b_X12_one_99, show D + 1 + 2 = (D + 2) + 1 from rfl, mr_wrong, qB_some, psh_some, b_X12_one_103]
        · by_cases q4 : o < 6 ∧ (b k = 33 ∨ b k = 45)
          · obtain ⟨o1, p1, p2⟩ := hA (d + 5) 5 (o + 1) (k + 1) f (by omega) (by omega) (by omega) hf (by have : rkT 5 = 2 := rfl; rw [this]; omega)
            rw [show ((k + 1 : Nat) : Int) = (k : Int) + 1 by omega, show ((o + 1 : Nat) : Int) = (o : Int) + 1 by omega] at p2
            have dd : dpR (d + 5) (o + 1) 5 = D + 3 := by
              have := dp_5 d o
              have := dp_5 (d + 5) (o + 1)
              omega
            have p2' : qE L xs (D + 3) nX12_one [(2, 63)] (qS (rdS v ((k : Int) + 1) f ((o : Int) + 1))) = _ := dd ▸ p2
            have n40 : ¬ b k = 40 := by omega
            have s32 : qG L xs (D + 3) CX12_one 32 [(2, 63), (0, b k), (9, 0), (9, 0), (9, 0)] [] (qS (rdS v k f o)) = some (some (0, if b k = 45 then w32 (-(vP b e nm n 5 (o + 1) (k + 1) f 0)) else if vP b e nm n 5 (o + 1) (k + 1) f 0 = 0 then 1 else 0), qS (rdS v (txP b e n 5 (o + 1) (k + 1) f).2.1 (txP b e n 5 (o + 1) (k + 1) f).2.2 (w32 (o1 - 1)))) := by
              rw [open1 _ q4.1, b_X12_one_66, if_neg n40, b_X12_one_79, p2', qB_some, psh_some, b_X12_one_83, if_neg n40, b_X12_one_104, rd_19, rd_u19, b_X12_one_114, if_neg n40, b_X12_one_124]
              by_cases q5 : b k = 45
              · rw [if_pos q5, if_pos q5, b_X12_one_130, b_X12_one_144]
              · rw [if_neg q5, if_neg q5, b_X12_one_135]
                by_cases q6 : vP b e nm n 5 (o + 1) (k + 1) f 0 = 0
                · rw [if_pos q6, if_pos q6, b_X12_one_139, b_X12_one_144]
                · rw [if_neg q6, if_neg q6, b_X12_one_143, b_X12_one_144]
            rw [tx_op hf, vp_op hf, if_pos hk2, if_pos hk2, if_neg q1, if_neg q1, if_neg q2, if_neg q2, if_neg q3, if_neg q3, if_pos q4, if_pos q4]
            refine ⟨w32 (o1 - 1), fun hh => ?_, ?_⟩
            · rw [p1 hh, show ((o + 1 : Nat) : Int) - 1 = (o : Int) by omega]
              exact w32_id (by omega) (by omega)
            · rcases q4.2 with q5 | q5
              · rw [if_pos q5]
                exact s32
              · rw [if_neg (by omega), if_pos q5]
                exact s32
          · rw [tx_op hf, vp_op hf, if_pos hk2, if_pos hk2, if_neg q1, if_neg q1, if_neg q2, if_neg q2, if_neg q3, if_neg q3, if_neg q4, if_neg q4]
            refine ⟨o, fun _ => rfl, ?_⟩
            by_cases h6 : o = 6
            · by_cases q5 : b k = 33
              · rw [if_pos q5]
                exact full _ h6
              · by_cases q6 : b k = 45
                · rw [if_neg q5, if_pos q6]
                  exact full _ h6
                · by_cases q7 : b k = 40
                  · rw [if_neg q5, if_neg q6, if_pos q7]
                    exact full _ h6
                  · rw [if_neg q5, if_neg q6, if_neg q7]
                    exact bad _ (by omega) rz
            · rw [if_neg (by omega), if_neg (by omega), if_neg (by omega)]
              exact bad _ (by omega) rz
  · have bk : byt b e k = 0 := if_neg hk2
    rw [bk, tx_op hf, vp_op hf, if_neg hk2, if_neg hk2, if_neg (by decide), if_neg (by decide), if_neg (by decide)]
    refine ⟨o, fun _ => rfl, ?_⟩
    have rz : (rdNum b e 4 0 k).2 = k ∧ (rdNum b e 4 0 k).1 = 0 := by
      have : rdNum b e 4 0 k = (0, k) := if_neg (fun z => hk2 z.1)
      rw [this]
      exact ⟨rfl, rfl⟩
    exact bad 0 (by decide) rz
/-- all of it, level by level -/
theorem rd_all (h : rdB v b e) (hn6 : ∀ i, i < 6 → v 73 i = nm i) : ∀ n d, rdA L xs d v b e nm n ∧ rdC L xs d v b e nm n
  | 0, d => ⟨fun m o k f _ _ _ _ h6 => absurd h6 (by omega), fun l o k f a z u2 u3 _ _ _ _ h6 => absurd h6 (by omega)⟩
  | n + 1, d => by
    have ih := rd_all h hn6 n
    refine ⟨fun m o k f hm ho hk hf hn => ?_, rd_loop h (ih d).1 (ih d).2⟩
    by_cases g : m < 5
    · exact rd_level h (ih d).1 (ih d).2 g ho hk hf hn
    · have : m = 5 := by omega
      subst this
      exact rd_operand h hn6 (fun d => (ih d).1) ho hk hf hn
/-- a whole E -/
theorem rd_either (h : rdB v b e) (hn6 : ∀ i, i < 6 → v 73 i = nm i) {k : Nat} {f : Int} (hk : k ≤ e) (hf : f < 0) (D : Nat) : ∃ o' : Int, ((txP b e 2500 0 0 k f).2.2 < 0 → o' = 0) ∧ qE L xs (D + 45) nX12_either [(2, 63)] (qS (rdS v k f 0)) = some (some (0, vP b e nm 2500 0 0 k f 0), qS (rdS v (txP b e 2500 0 0 k f).2.1 (txP b e 2500 0 0 k f).2.2 o')) := by
  obtain ⟨o', p1, p2⟩ := (rd_all (L := L) (xs := xs) h hn6 2500 D).1 0 0 k f (by omega) (by omega) hk hf (by have : rkT 0 = 12 := rfl; rw [this]; omega)
  exact ⟨o', p1, p2⟩
end OTE
end
