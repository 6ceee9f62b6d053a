/-! THE LAW as the reference reads it: its small steps -/
section OY3
variable {L : Nat} {xs : Nat → Int} {d : Nat} {v w : Nat → Nat → Int} {b : Nat → Int} {e : Nat} {nm : Nat → Int} {k f o : Int}
/-- where it reads, the fault, how many are open -/
def rdS (v : Nat → Nat → Int) (k f o : Int) : Nat → Nat → Int := fun c j => if c = 63 then (if j = 16 then k else if j = 18 then f else if j = 19 then o else v c j) else v c j
theorem rd_16 : rdS v k f o 63 16 = k := rfl
theorem rd_18 : rdS v k f o 63 18 = f := rfl
theorem rd_19 : rdS v k f o 63 19 = o := rfl
theorem rd_ne {c j : Nat} (h : ¬ (c = 63 ∧ (j = 16 ∨ j = 18 ∨ j = 19))) : rdS v k f o c j = v c j := by
  unfold rdS
  by_cases g : c = 63
  · rw [if_pos g, if_neg (by omega), if_neg (by omega), if_neg (by omega)]
  · rw [if_neg g]
theorem rd_u16 (z : Int) : pm_up (rdS v k f o) 63 16 z = rdS v z f o := by
  funext c j
  show (if c = 63 ∧ j = 16 then z else if c = 63 then (if j = 16 then k else if j = 18 then f else if j = 19 then o else v c j) else v c j) = if c = 63 then (if j = 16 then z else if j = 18 then f else if j = 19 then o else v c j) else v c j
  by_cases g : c = 63
  · by_cases g2 : j = 16
    · rw [if_pos ⟨g, g2⟩, if_pos g, if_pos g2]
    · rw [if_neg (by omega), if_pos g, if_pos g, if_neg g2, if_neg g2]
  · rw [if_neg (by omega), if_neg g, if_neg g]
theorem rd_u18 (z : Int) : pm_up (rdS v k f o) 63 18 z = rdS v k z o := by
  funext c j
  show (if c = 63 ∧ j = 18 then z else if c = 63 then (if j = 16 then k else if j = 18 then f else if j = 19 then o else v c j) else v c j) = if c = 63 then (if j = 16 then k else if j = 18 then z else if j = 19 then o else v c j) else v c j
  by_cases g : c = 63
  · by_cases g2 : j = 18
    · rw [if_pos ⟨g, g2⟩, if_pos g, if_neg (by omega), if_pos g2]
    · rw [if_neg (by omega), if_pos g, if_pos g, if_neg g2, if_neg g2]
  · rw [if_neg (by omega), if_neg g, if_neg g]
theorem rd_u19 (z : Int) : pm_up (rdS v k f o) 63 19 z = rdS v k f z := by
  funext c j
  show (if c = 63 ∧ j = 19 then z else if c = 63 then (if j = 16 then k else if j = 18 then f else if j = 19 then o else v c j) else v c j) = if c = 63 then (if j = 16 then k else if j = 18 then f else if j = 19 then z else v c j) else v c j
  by_cases g : c = 63
  · by_cases g2 : j = 19
    · rw [if_pos ⟨g, g2⟩, if_pos g, if_neg (by omega), if_neg (by omega), if_pos g2]
    · rw [if_neg (by omega), if_pos g, if_pos g, if_neg g2, if_neg g2]
  · rw [if_neg (by omega), if_neg g, if_neg g]
/-- what it reads: the tape (base below 0) or the text -/
def rdB (v : Nat → Nat → Int) (b : Nat → Int) (e : Nat) : Prop := v 63 17 = (e : Int) ∧ e ≤ 120 ∧ (∀ i, i < e → 0 ≤ b i ∧ b i ≤ 255) ∧ ((v 63 15 = -1 ∧ ∀ i, i < e → v 71 i = b i) ∨ (v 63 15 = 0 ∧ ∀ i, i < e → v 72 i = b i))
def byt (b : Nat → Int) (e k : Nat) : Int := if k < e then b k else 0
theorem mr_byteAt {k : Nat} (h : rdB v b e) : qE L xs (d + 1) nX12_byteAt [(2, 63)] (qS (rdS v (k : Int) f o)) = some (some (0, byt b e k), qS (rdS v (k : Int) f o)) := by
  obtain ⟨h1, h2, h3, h4⟩ := h
  unfold byt
  rw [e_X12_byteAt, b_X12_byteAt_0, rd_16, rd_ne (by omega), h1]
  by_cases g : k < e
  · rw [if_pos (by omega), if_pos g, b_X12_byteAt_11, rd_ne (by omega)]
    rcases h4 with ⟨h5, h6⟩ | ⟨h5, h6⟩
    · rw [if_pos (by omega), b_X12_byteAt_18, rd_16, if_pos (by omega), Int.toNat_natCast, rd_ne (by omega), h6 k g, b_X12_byteAt_27, b_X12_byteAt_48]
    · rw [if_neg (by omega), b_X12_byteAt_30, rd_16, rd_ne (by omega), h5, w32_id (by omega) (by omega), if_pos (by omega), show (0 + (k : Int)).toNat = k by omega, rd_ne (by omega), h6 k g, b_X12_byteAt_44, b_X12_byteAt_48]
  · rw [if_neg (by omega), if_neg g, b_X12_byteAt_47, b_X12_byteAt_48]
theorem mr_wrong : qE L xs (d + 1) nX12_wrong [(2, 63)] (qS (rdS v k f o)) = some (some (0, 0), qS (rdS v k (if f < 0 then k else f) o)) := by
  rw [e_X12_wrong, b_X12_wrong_0, rd_18]
  by_cases g : f < 0
  · rw [if_pos g, if_pos g, b_X12_wrong_8, rd_16, b_X12_wrong_19, rd_u18, b_X12_wrong_22]
  · rw [if_neg g, if_neg g, b_X12_wrong_15, rd_18, b_X12_wrong_19, rd_u18, b_X12_wrong_22]
theorem mr_takes {k : Nat} (h : rdB v b e) (c : Int) (hc : c ≠ 0) : qE L xs (d + 2) nX12_takes [(2, 63), (0, c)] (qS (rdS v (k : Int) f o)) = if f < 0 ∧ k < e ∧ b k = c then some (some (0, 1), qS (rdS v ((k : Int) + 1) f o)) else some (some (0, 0), qS (rdS v (k : Int) f o)) := by
  have he := h.2.1
  rw [e_X12_takes, b_X12_takes_0, rd_18]
  by_cases g : f < 0
  · rw [if_pos g, b_X12_takes_7, mr_byteAt h, qB_some, psh_some, b_X12_takes_11]
    unfold byt
    by_cases g2 : k < e
    · rw [if_pos g2]
      by_cases g3 : b k = c
      · rw [if_pos g3, if_pos ⟨g, g2, g3⟩, b_X12_takes_17, rd_16, w32_id (by omega) (by omega), rd_u16, b_X12_takes_27]
      · rw [if_neg g3, if_neg (fun q => g3 q.2.2), b_X12_takes_15]
    · rw [if_neg g2, if_neg (fun q => hc q.symm), if_neg (fun q => g2 q.2.1), b_X12_takes_15]
  · rw [if_neg g, if_neg (fun q => g q.1), b_X12_takes_15]
end OY3
