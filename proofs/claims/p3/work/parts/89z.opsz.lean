/-! THE LAW as the reference reads it: names and numbers -/
section OZ3
variable {L : Nat} {xs : Nat → Int} {d : Nat} {v w : Nat → Nat → Int} {b : Nat → Int} {e : Nat} {f o : Int}
theorem mr_nameOf (x : Int) : qE L xs (d + 1) nX12_nameOf [(0, x)] (qS v) = some (some (0, nmI x), qS v) := by
  rw [e_X12_nameOf]
  unfold nmI
  by_cases h1 : x = 116
  · rw [if_pos h1, b_X12_nameOf_0_v116 (h := h1), b_X12_nameOf_60]
  · rw [if_neg h1]
    by_cases h2 : x = 119
    · rw [if_pos h2, b_X12_nameOf_0_v119 (h := h2), b_X12_nameOf_62]
    · rw [if_neg h2]
      by_cases h3 : x = 111
      · rw [if_pos h3, b_X12_nameOf_0_v111 (h := h3), b_X12_nameOf_64]
      · rw [if_neg h3]
        by_cases h4 : x = 115
        · rw [if_pos h4, b_X12_nameOf_0_v115 (h := h4), b_X12_nameOf_66]
        · rw [if_neg h4]
          by_cases h5 : x = 121
          · rw [if_pos h5, b_X12_nameOf_0_v121 (h := h5), b_X12_nameOf_68]
          · rw [if_neg h5]
            by_cases h6 : x = 100
            · rw [if_pos h6, b_X12_nameOf_0_v100 (h := h6), b_X12_nameOf_70]
            · rw [if_neg h6, b_X12_nameOf_0_o (h := by omega), b_X12_nameOf_72]
theorem mr_digits (h : rdB v b e) (x1 x2 : Int) : ∀ (n k : Nat) (z : Int), n ≤ 4 → k ≤ e → 0 ≤ z → z < 10 ^ (4 - n) → ∃ c : Int, (c = 4 - (n : Int) ↔ (rdNum b e n z k).2 = k) ∧ 4 - (n : Int) ≤ c ∧ qG L xs (d + 1) CX12_one 176 [(2, 63), (0, x1), (0, x2), (0, z), (0, 4 - (n : Int))] [] (qS (rdS v (k : Int) f o)) = qG L xs (d + 1) CX12_one 229 [(2, 63), (0, x1), (0, x2), (0, (rdNum b e n z k).1), (0, c)] [] (qS (rdS v ((rdNum b e n z k).2 : Int) f o))
  | 0, k, z, hn, hk, h0, hz => by
    refine ⟨4, ⟨fun _ => rfl, fun _ => by omega⟩, by omega, ?_⟩
    rw [b_X12_one_176, if_neg (by omega)]
    rfl
  | n + 1, k, z, hn, hk, h0, hz => by
    have he := h.2.1
    have z4 : z < 1000 := by
      have : n = 0 ∨ n = 1 ∨ n = 2 ∨ n = 3 := by omega
      rcases this with rfl | rfl | rfl | rfl
      · exact hz
      · have : z < 100 := hz
        omega
      · have : z < 10 := hz
        omega
      · have : z < 1 := hz
        omega
    rw [b_X12_one_176, if_pos (by omega), b_X12_one_182, mr_byteAt h, qB_some, psh_some, b_X12_one_186, b_X12_one_191, mr_byteAt h, qB_some, psh_some, b_X12_one_195]
    unfold rdNum byt
    by_cases g : k < e ∧ dgt (b k)
    · have p : (10 : Int) ^ (4 - n) = 10 * 10 ^ (4 - (n + 1)) := by
        rw [show 4 - n = (4 - (n + 1)) + 1 by omega, Int.pow_succ, Int.mul_comm]
      have dg := g.2
      unfold dgt at dg
      obtain ⟨c, c1, c2, c3⟩ := mr_digits h x1 x2 n (k + 1) (z * 10 + b k - 48) (by omega) (by omega) (by omega) (by rw [p]; omega)
      have le := rd_le (b := b) (e := e) n (z * 10 + b k - 48) (k + 1) (by omega)
      refine ⟨c, ⟨fun q => ?_, fun q => ?_⟩, by omega, ?_⟩
      · omega
      · rw [if_pos g] at q
        omega
      · have eb : byt b e k = b k := if_pos g.1
        rw [if_pos g.1, if_neg (by omega), if_neg (by omega), b_X12_one_200, mr_byteAt h, qB_some, psh_some, eb, b_X12_one_208, rd_16, w32_id (z := 10 * z) (by omega) (by omega), w32_id (z := 10 * z + b k) (by omega) (by omega), w32_id (z := 10 * z + b k - 48) (by omega) (by omega), w32_id (z := (k : Int) + 1) (by omega) (by omega), rd_u16, w32_id (by omega) (by omega), b_X12_one_226, if_pos g]
        rw [show ((k + 1 : Nat) : Int) = (k : Int) + 1 by omega, show z * 10 + b k - 48 = 10 * z + b k - 48 by omega, show 4 - (n : Int) = 4 - ((n + 1 : Nat) : Int) + 1 by omega] at c3
        rw [show z * 10 + b k - 48 = 10 * z + b k - 48 by omega]
        exact c3
    · refine ⟨4 - ((n + 1 : Nat) : Int), ⟨fun _ => by rw [if_neg g], fun _ => rfl⟩, by omega, ?_⟩
      rw [if_neg g]
      by_cases g1 : k < e
      · have ng : ¬ (48 ≤ b k ∧ b k ≤ 57) := fun q => g ⟨g1, q⟩
        rw [if_pos g1]
        by_cases g2 : b k < 48
        · rw [if_pos g2]
        · rw [if_neg g2, if_pos (by omega)]
      · rw [if_neg g1, if_pos (by omega)]
end OZ3
