/-! THE RELATION at the first state; what the ways want out of it (written by wip/p1/81.first.py) -/
section FI
variable {L : Nat} {xs : Nat → Int} {d : Nat} {v : Nat → Nat → Int}
theorem k12 {k : Nat} (h : k < 12) : k = 0 ∨ k = 1 ∨ k = 2 ∨ k = 3 ∨ k = 4 ∨ k = 5 ∨ k = 6 ∨ k = 7 ∨ k = 8 ∨ k = 9 ∨ k = 10 ∨ k = 11 := by omega
theorem fr_rlW (h : Fresh v) : rlW v := by
  have m := M0_of h
  have h1 := f_1_1 h
  have h2 := f_1_2 h
  refine ⟨by omega, by omega, fun k n hk hn => ?_, ⟨by rw [h1, g_63_6 m], by rw [h2, g_63_8 m]⟩, fun k n hk hn hl => ?_, fun n hn => by omega, fun n hn => by omega, fun n hn => ⟨fun _ => ⟨f_6_0_r h n (by omega) (by omega), f_7_0_r h n (by omega) (by omega)⟩, fun _ => ⟨f_8_0_r h n (by omega) (by omega), f_9_0_r h n (by omega) (by omega)⟩⟩⟩
  · have hn2 : n < 30 := by
      rcases k12 hk with rfl | rfl | rfl | rfl | rfl | rfl | rfl | rfl | rfl | rfl | rfl | rfl <;> exact Nat.lt_of_lt_of_le hn (by decide)
    rcases k12 hk with rfl | rfl | rfl | rfl | rfl | rfl | rfl | rfl | rfl | rfl | rfl | rfl
    · show lo 0 ≤ v 3 n ∧ v 3 n ≤ hi 0
      rw [f_3_0_r h n (by omega) (by omega)]
      decide
    · show lo 1 ≤ v 4 n ∧ v 4 n ≤ hi 1
      rw [f_4_0_r h n (by omega) (by omega)]
      decide
    · show lo 2 ≤ v 5 n ∧ v 5 n ≤ hi 2
      rw [f_5_0_r h n (by omega) (by omega)]
      decide
    · show lo 3 ≤ v 6 n ∧ v 6 n ≤ hi 3
      rw [f_6_0_r h n (by omega) (by omega)]
      decide
    · show lo 4 ≤ v 7 n ∧ v 7 n ≤ hi 4
      rw [f_7_0_r h n (by omega) (by omega)]
      decide
    · show lo 5 ≤ v 8 n ∧ v 8 n ≤ hi 5
      rw [f_8_0_r h n (by omega) (by omega)]
      decide
    · show lo 6 ≤ v 9 n ∧ v 9 n ≤ hi 6
      rw [f_9_0_r h n (by omega) (by omega)]
      decide
    · show lo 7 ≤ v 10 n ∧ v 10 n ≤ hi 7
      rw [f_10_0_r h n (by omega) (by omega)]
      decide
    · show lo 8 ≤ v 11 n ∧ v 11 n ≤ hi 8
      rw [f_11_0_r h n (by omega) (by omega)]
      decide
    · show lo 9 ≤ v 12 n ∧ v 12 n ≤ hi 9
      rw [f_12_0_r h n (by omega) (by omega)]
      decide
    · show lo 10 ≤ v 13 n ∧ v 13 n ≤ hi 10
      rw [f_13_0_r h n (by omega) (by omega)]
      decide
    · show lo 11 ≤ v 14 n ∧ v 14 n ≤ hi 11
      rw [f_14_0_r h n (by omega) (by omega)]
      decide
  · rcases k12 hk with rfl | rfl | rfl | rfl | rfl | rfl | rfl | rfl | rfl | rfl | rfl | rfl
    · have hn2 : n < 30 := hn
      show v 64 (30 * 0 + n) = v 3 n
      rw [f_3_0_r h n (by omega) (by omega), g_64_0_r m (30 * 0 + n) (by omega) (by omega)]
    · have hn2 : n < 30 := hn
      show v 64 (30 * 1 + n) = v 4 n
      rw [f_4_0_r h n (by omega) (by omega), g_64_30_r m (30 * 1 + n) (by omega) (by omega)]
    · have hn2 : n < 30 := hn
      show v 64 (30 * 2 + n) = v 5 n
      rw [f_5_0_r h n (by omega) (by omega), g_64_60_r m (30 * 2 + n) (by omega) (by omega)]
    · have q : (n : Int) < v 1 1 := hl
      omega
    · have q : (n : Int) < v 1 1 := hl
      omega
    · have q : (n : Int) < v 1 2 := hl
      omega
    · have q : (n : Int) < v 1 2 := hl
      omega
    · have hn2 : n < 2 := hn
      show v 64 (138 + n) = v 10 n
      rw [f_10_0_r h n (by omega) (by omega), g_64_138_r m (138 + n) (by omega) (by omega)]
    · have hn2 : n < 1 := hn
      have hn3 : n = 0 := by omega
      subst hn3
      show v 64 140 = v 11 0
      rw [f_11_0 h, g_64_140 m]
    · have hn2 : n < 1 := hn
      have hn3 : n = 0 := by omega
      subst hn3
      show v 64 141 = v 12 0
      rw [f_12_0 h, g_64_141 m]
    · have hn2 : n < 1 := hn
      have hn3 : n = 0 := by omega
      subst hn3
      show v 64 142 = v 13 0
      rw [f_13_0 h, g_64_142 m]
    · have hn2 : n < 1 := hn
      have hn3 : n = 0 := by omega
      subst hn3
      show v 64 143 = v 14 0
      rw [f_14_0 h, g_64_143 m]
theorem fr_rlR (h : Fresh v) : rlR v := by
  have m := M0_of h
  refine ⟨fr_rlW h, ?_, ?_, ?_, ?_, ?_, ?_, ?_, ⟨⟨g_63_22 m, g_63_23 m, g_63_24 m⟩, Or.inl ⟨f_38_0 h, f_38_1 h⟩⟩⟩
  · have a := f_18_4 h
    have b := f_18_5 h
    refine ⟨by omega, ⟨by rw [a, g_63_5 m], by rw [b, g_63_4 m]⟩, fun i hi => by omega⟩
  · have a := f_23_10 h
    refine ⟨by rw [a, g_63_12 m], by omega, fun i hi => by omega, Or.inl ⟨f_23_1 h, f_23_2 h⟩⟩
  · exact Or.inl ⟨f_23_5 h, g_63_14 m⟩
  · have c := f_0_11 h
    refine ⟨⟨fun i hi => ?_, fun a ha => ?_⟩, fun q => by omega⟩
    · rw [g_79_0_r m i (by omega) (by omega), f_42_0_r h i (by omega) (by omega)]
      omega
    · exact f_42_0_r h (7 * a) (by omega) (by omega)
  · have a0 := f_47_0 h
    have a1 := f_47_1 h
    have a2 := f_47_2 h
    have a3 := f_47_3 h
    have c := f_0_11 h
    refine ⟨⟨by rw [a0, g_63_32 m], by rw [a1, g_63_33 m], by rw [a2, g_63_34 m], by rw [a3, g_63_35 m]⟩, by omega, fun q => by omega, by rw [c, g_63_36 m], by omega⟩
  · have a := f_49_2 h
    have b := f_49_3 h
    refine ⟨by omega, by rw [a, g_63_39 m], fun i hi => by omega, by rw [b, g_63_42 m], by omega, fun i hi => by omega⟩
  · intro k hk
    have a := f_53_0_r h k (by omega) (by omega)
    refine ⟨by omega, fun _ => g_86_0_r m k (by omega) (by omega), fun q => by omega, fun q => by omega⟩
/-- the place of a number, by what it is -/
theorem rW_k (h : rlW v) (k n : Nat) (hk : k < 12) (hn : n < cn k) : lo k ≤ v (3 + k) n ∧ v (3 + k) n ≤ hi k := h.2.2.1 k n hk hn
theorem rW_t (h : rlW v) (y : Nat) (hy : y < 30) : 1 ≤ v 3 y ∧ v 3 y ≤ 9 := rW_k h 0 y (by omega) hy
theorem rW_w (h : rlW v) (y : Nat) (hy : y < 30) : 0 ≤ v 4 y ∧ v 4 y ≤ 99 := rW_k h 1 y (by omega) hy
theorem rW_hd (h : rlW v) (i : Nat) (hi : i < 12) : 1 ≤ v 7 i ∧ v 7 i ≤ 9 := rW_k h 4 i (by omega) hi
theorem rW_lw (h : rlW v) (i : Nat) (hi : i < 12) : 1 ≤ v 9 i ∧ v 9 i ≤ 9 := rW_k h 6 i (by omega) hi
theorem rW_r (h : rlW v) (i : Nat) (hi : i < 2) : 0 ≤ v 10 i ∧ v 10 i ≤ 99 := rW_k h 7 i (by omega) hi
theorem rW_L (h : rlW v) : 2 ≤ v 11 0 ∧ v 11 0 ≤ 30 := rW_k h 8 0 (by omega) (by decide)
theorem rW_T (h : rlW v) : 1 ≤ v 12 0 ∧ v 12 0 ≤ 30 := rW_k h 9 0 (by omega) (by decide)
theorem rW_C (h : rlW v) : 0 ≤ v 13 0 ∧ v 13 0 ≤ 9 := rW_k h 10 0 (by omega) (by decide)
theorem rW_R (h : rlW v) : 0 ≤ v 14 0 ∧ v 14 0 ≤ 99 := rW_k h 11 0 (by omega) (by decide)
theorem rM_t (h : rlW v) (y : Nat) (hy : y < 30) : v 64 y = v 3 y := by
  have := h.2.2.2.2.1 0 y (by omega) hy (by show (y : Int) < 30; omega)
  rw [show atM 0 y = y by show 30 * 0 + y = y; omega] at this
  exact this
theorem rM_w (h : rlW v) (y : Nat) (hy : y < 30) : v 64 (30 + y) = v 4 y := h.2.2.2.2.1 1 y (by omega) hy (by show (y : Int) < 30; omega)
theorem rM_o (h : rlW v) (y : Nat) (hy : y < 30) : v 64 (60 + y) = v 5 y := h.2.2.2.2.1 2 y (by omega) hy (by show (y : Int) < 30; omega)
theorem rM_ho (h : rlW v) (i : Nat) (hi : (i : Int) < v 1 1) : v 64 (90 + i) = v 6 i := by
  have h1 := h.1
  have := h.2.2.2.2.1 3 i (by omega) (by show i < 12; omega) hi
  exact this
theorem rM_hd (h : rlW v) (i : Nat) (hi : (i : Int) < v 1 1) : v 64 (102 + i) = v 7 i := by
  have h1 := h.1
  have := h.2.2.2.2.1 4 i (by omega) (by show i < 12; omega) hi
  exact this
theorem rM_lo (h : rlW v) (i : Nat) (hi : (i : Int) < v 1 2) : v 64 (114 + i) = v 8 i := by
  have h1 := h.2.1
  have := h.2.2.2.2.1 5 i (by omega) (by show i < 12; omega) hi
  exact this
theorem rM_lw (h : rlW v) (i : Nat) (hi : (i : Int) < v 1 2) : v 64 (126 + i) = v 9 i := by
  have h1 := h.2.1
  have := h.2.2.2.2.1 6 i (by omega) (by show i < 12; omega) hi
  exact this
theorem rM_r (h : rlW v) (i : Nat) (hi : i < 2) : v 64 (138 + i) = v 10 i := h.2.2.2.2.1 7 i (by omega) hi (by show (i : Int) < 2; omega)
theorem rM_L (h : rlW v) : v 64 140 = v 11 0 := h.2.2.2.2.1 8 0 (by omega) (by decide) (by show ((0 : Nat) : Int) < 1; omega)
theorem rM_T (h : rlW v) : v 64 141 = v 12 0 := h.2.2.2.2.1 9 0 (by omega) (by decide) (by show ((0 : Nat) : Int) < 1; omega)
theorem rM_C (h : rlW v) : v 64 142 = v 13 0 := h.2.2.2.2.1 10 0 (by omega) (by decide) (by show ((0 : Nat) : Int) < 1; omega)
theorem rM_R (h : rlW v) : v 64 143 = v 14 0 := h.2.2.2.2.1 11 0 (by omega) (by decide) (by show ((0 : Nat) : Int) < 1; omega)
theorem rW_WW (h : rlW v) : WW v := ⟨rW_L h, h.1, h.2.1, fun i hi => ⟨rW_hd h i hi, rW_lw h i hi⟩, rW_r h 0 (by omega), rW_r h 1 (by omega)⟩
theorem rW_CW (h : rlW v) : CW v := ⟨⟨rM_L h, h.2.2.2.1.1, h.2.2.2.1.2, rM_r h 0 (by omega), rM_r h 1 (by omega)⟩, fun i hi => ⟨(h.2.2.2.2.2.1 i hi).1, rM_ho h i hi, rM_hd h i hi⟩, fun i hi => ⟨(h.2.2.2.2.2.2.1 i hi).1, (h.2.2.2.2.2.2.1 i hi).2.1, rM_lo h i hi, rM_lw h i hi⟩⟩
theorem rW_WN (h : rlW v) : WN v := ⟨rW_L h, fun y hy => rW_t h y hy, rW_T h⟩
theorem rW_CN (h : rlW v) : CN v := ⟨rM_L h, fun y hy => rM_t h y hy, rM_T h⟩
/-- both answer, alike, and the relation is kept -/
def opR (L : Nat) (xs : Nat → Int) (v : Nat → Nat → Int) (y1 y2 t : Nat) (as : List pm_V) : Prop := ∃ r v1 v2, qE L xs 1000 y1 ((2, 0) :: as) (qS v) = some (some (t, r), qS v1) ∧ qE L xs 1000 y2 ((2, 63) :: as) (qS v1) = some (some (t, r), qS v2) ∧ rlR v2
theorem opR_W {y1 y2 : Nat} {as : List pm_V} (hr : rlR v) (h : opW L xs 900 v y1 y2 as) : opR L xs v y1 y2 0 as := by
  obtain ⟨r, v1, v2, h1, h2, h3, h4⟩ := h
  exact ⟨r, v1, v2, h1, h3, rlR_fP h4 (rlR_fW h2 hr)⟩
theorem opR_no {y1 y2 t : Nat} {as : List pm_V} {r : Int} (hr : rlR v) (h1 : qE L xs 1000 y1 ((2, 0) :: as) (qS v) = some (some (t, r), qS v)) (h2 : qE L xs 1000 y2 ((2, 63) :: as) (qS v) = some (some (t, r), qS v)) : opR L xs v y1 y2 t as := ⟨r, v, v, h1, h2, hr⟩
theorem opr_news (h : rlR v) (y : Int) (hy : y < 2147483648) : opR L xs v nX11_news nX12_news 0 [(0, y)] := opR_W h (op_news (rW_WN h.1) (rW_CN h.1) y hy)
theorem opr_heard (h : rlR v) (a w : Int) : opR L xs v nX11_heard nX12_heard 0 [(0, a), (0, w)] := opR_W h (op_heard (rW_WN h.1) (rW_CN h.1) a w)
theorem opr_whence (h : rlR v) (y mn w : Int) (hy : y < 2147483648) : opR L xs v nX11_whence nX12_whence 0 [(0, y), (0, mn), (0, w)] := opR_W h (op_whence (rW_WN h.1) (rW_CN h.1) y mn w hy)
end FI
