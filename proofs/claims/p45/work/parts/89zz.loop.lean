/-! THE LAW, call by call, over a script of any length (written by wip/gen_loop.py) -/
section LZ
variable {L : Nat} {xs : Nat → Int} {v : Nat → Nat → Int} {i : Nat}
theorem law_w (j : Nat) (hi : (i : Int) + 6 ≤ (L : Int)) (hL : L ≤ 3072) (hj : j < 7) : w32 ((i : Int) + (j : Int)) = ((i + j : Nat) : Int) := by
  rw [w32_id (by omega) (by omega)]
  omega
theorem law_c (j : Nat) (hi : (i : Int) + 6 ≤ (L : Int)) (hj : j < 6) : 0 ≤ ((i + j : Nat) : Int) ∧ ((i + j : Nat) : Int) < (L : Int) := by omega
theorem law_go (hi : (i : Int) + 6 ≤ (L : Int)) (hL : L ≤ 3072) : qG L xs 1000 CL_law 18 [(2, 1005), (2, 0), (2, 63), (0, (i : Int))] [] (qS v) = qG L xs 1000 CL_law 30 [(2, 1005), (2, 0), (2, 63), (0, (i : Int))] [(0, xs i)] (qS v) := by
  rw [b_law_18, w32_id (by omega) (by omega), if_neg (by omega), b_law_27, if_pos (by omega), Int.toNat_natCast]
theorem law_nx (hi : (i : Int) + 6 ≤ (L : Int)) (hL : L ≤ 3072) : qG L xs 1000 CL_law 1556 [(2, 1005), (2, 0), (2, 63), (0, (i : Int))] [] (qS v) = qG L xs 1000 CL_law 18 [(2, 1005), (2, 0), (2, 63), (0, ((i + 6 : Nat) : Int))] [] (qS v) := by
  have w6 : w32 ((i : Int) + 6) = _ := law_w 6 hi hL (by decide)
  rw [b_law_1556, w6]
theorem law_0 (hi : (i : Int) + 6 ≤ (L : Int)) (hL : L ≤ 3072) (hk : pm_and (xs i) 63 = 0) (h : opR L xs v nX11_hole nX12_hole 0 [(0, xs (i + 1))]) : ∃ v2, rlR v2 ∧ qG L xs 1000 CL_law 18 [(2, 1005), (2, 0), (2, 63), (0, (i : Int))] [] (qS v) = qG L xs 1000 CL_law 18 [(2, 1005), (2, 0), (2, 63), (0, ((i + 6 : Nat) : Int))] [] (qS v2) := by
  obtain ⟨r, v1, v2, h1, h2, h3⟩ := h
  have w1 : w32 ((i : Int) + 1) = _ := law_w 1 hi hL (by decide)
  have c1 := law_c 1 hi (by decide)
  refine ⟨v2, h3, ?_⟩
  rw [law_go hi hL, b_law_30_v0 _ _ hk, b_law_224, w1, if_pos c1, Int.toNat_natCast, b_law_230, h1, qB_some, psh_some, b_law_233, w1, if_pos c1, Int.toNat_natCast, b_law_240, h2, qB_some, psh_some, b_law_243, law_nx hi hL]
theorem law_1 (hi : (i : Int) + 6 ≤ (L : Int)) (hL : L ≤ 3072) (hk : pm_and (xs i) 63 = 1) (h : opR L xs v nX11_lane nX12_lane 0 [(0, xs (i + 1))]) : ∃ v2, rlR v2 ∧ qG L xs 1000 CL_law 18 [(2, 1005), (2, 0), (2, 63), (0, (i : Int))] [] (qS v) = qG L xs 1000 CL_law 18 [(2, 1005), (2, 0), (2, 63), (0, ((i + 6 : Nat) : Int))] [] (qS v2) := by
  obtain ⟨r, v1, v2, h1, h2, h3⟩ := h
  have w1 : w32 ((i : Int) + 1) = _ := law_w 1 hi hL (by decide)
  have c1 := law_c 1 hi (by decide)
  refine ⟨v2, h3, ?_⟩
  rw [law_go hi hL, b_law_30_v1 _ _ hk, b_law_247, w1, if_pos c1, Int.toNat_natCast, b_law_253, h1, qB_some, psh_some, b_law_256, w1, if_pos c1, Int.toNat_natCast, b_law_263, h2, qB_some, psh_some, b_law_266, law_nx hi hL]
theorem law_2 (hi : (i : Int) + 6 ≤ (L : Int)) (hL : L ≤ 3072) (hk : pm_and (xs i) 63 = 2) (h : opR L xs v nX11_mend nX12_mend 0 [(0, xs (i + 1)), (0, xs (i + 2)), (0, xs (i + 3))]) : ∃ v2, rlR v2 ∧ qG L xs 1000 CL_law 18 [(2, 1005), (2, 0), (2, 63), (0, (i : Int))] [] (qS v) = qG L xs 1000 CL_law 18 [(2, 1005), (2, 0), (2, 63), (0, ((i + 6 : Nat) : Int))] [] (qS v2) := by
  obtain ⟨r, v1, v2, h1, h2, h3⟩ := h
  have w1 : w32 ((i : Int) + 1) = _ := law_w 1 hi hL (by decide)
  have c1 := law_c 1 hi (by decide)
  have w2 : w32 ((i : Int) + 2) = _ := law_w 2 hi hL (by decide)
  have c2 := law_c 2 hi (by decide)
  have w3 : w32 ((i : Int) + 3) = _ := law_w 3 hi hL (by decide)
  have c3 := law_c 3 hi (by decide)
  refine ⟨v2, h3, ?_⟩
  rw [law_go hi hL, b_law_30_v2 _ _ hk, b_law_270, w1, if_pos c1, Int.toNat_natCast, b_law_276, w2, if_pos c2, Int.toNat_natCast, b_law_281, w3, if_pos c3, Int.toNat_natCast, b_law_286, h1, qB_some, psh_some, b_law_289, w1, if_pos c1, Int.toNat_natCast, b_law_296, w2, if_pos c2, Int.toNat_natCast, b_law_301, w3, if_pos c3, Int.toNat_natCast, b_law_306, h2, qB_some, psh_some, b_law_309, law_nx hi hL]
theorem law_3 (hi : (i : Int) + 6 ≤ (L : Int)) (hL : L ≤ 3072) (hk : pm_and (xs i) 63 = 3) (h : opR L xs v nX11_of nX12_of 0 [(0, xs (i + 1)), (0, xs (i + 2))]) : ∃ v2, rlR v2 ∧ qG L xs 1000 CL_law 18 [(2, 1005), (2, 0), (2, 63), (0, (i : Int))] [] (qS v) = qG L xs 1000 CL_law 18 [(2, 1005), (2, 0), (2, 63), (0, ((i + 6 : Nat) : Int))] [] (qS v2) := by
  obtain ⟨r, v1, v2, h1, h2, h3⟩ := h
  have w1 : w32 ((i : Int) + 1) = _ := law_w 1 hi hL (by decide)
  have c1 := law_c 1 hi (by decide)
  have w2 : w32 ((i : Int) + 2) = _ := law_w 2 hi hL (by decide)
  have c2 := law_c 2 hi (by decide)
  refine ⟨v2, h3, ?_⟩
  rw [law_go hi hL, b_law_30_v3 _ _ hk, b_law_313, w1, if_pos c1, Int.toNat_natCast, b_law_319, w2, if_pos c2, Int.toNat_natCast, b_law_324, h1, qB_some, psh_some, b_law_327, w1, if_pos c1, Int.toNat_natCast, b_law_334, w2, if_pos c2, Int.toNat_natCast, b_law_339, h2, qB_some, psh_some, b_law_342, law_nx hi hL]
theorem law_4 (hi : (i : Int) + 6 ≤ (L : Int)) (hL : L ≤ 3072) (hk : pm_and (xs i) 63 = 4) (h : opR L xs v nX11_yards nX12_yards 0 [(0, xs (i + 1)), (0, xs (i + 2)), (0, xs (i + 3))]) : ∃ v2, rlR v2 ∧ qG L xs 1000 CL_law 18 [(2, 1005), (2, 0), (2, 63), (0, (i : Int))] [] (qS v) = qG L xs 1000 CL_law 18 [(2, 1005), (2, 0), (2, 63), (0, ((i + 6 : Nat) : Int))] [] (qS v2) := by
  obtain ⟨r, v1, v2, h1, h2, h3⟩ := h
  have w1 : w32 ((i : Int) + 1) = _ := law_w 1 hi hL (by decide)
  have c1 := law_c 1 hi (by decide)
  have w2 : w32 ((i : Int) + 2) = _ := law_w 2 hi hL (by decide)
  have c2 := law_c 2 hi (by decide)
  have w3 : w32 ((i : Int) + 3) = _ := law_w 3 hi hL (by decide)
  have c3 := law_c 3 hi (by decide)
  refine ⟨v2, h3, ?_⟩
  rw [law_go hi hL, b_law_30_v4 _ _ hk, b_law_346, w1, if_pos c1, Int.toNat_natCast, b_law_352, w2, if_pos c2, Int.toNat_natCast, b_law_357, w3, if_pos c3, Int.toNat_natCast, b_law_362, h1, qB_some, psh_some, b_law_365, w1, if_pos c1, Int.toNat_natCast, b_law_372, w2, if_pos c2, Int.toNat_natCast, b_law_377, w3, if_pos c3, Int.toNat_natCast, b_law_382, h2, qB_some, psh_some, b_law_385, law_nx hi hL]
theorem law_5 (hi : (i : Int) + 6 ≤ (L : Int)) (hL : L ≤ 3072) (hk : pm_and (xs i) 63 = 5) (h : opR L xs v nX11_feed nX12_feed 0 [(0, xs (i + 1))]) : ∃ v2, rlR v2 ∧ qG L xs 1000 CL_law 18 [(2, 1005), (2, 0), (2, 63), (0, (i : Int))] [] (qS v) = qG L xs 1000 CL_law 18 [(2, 1005), (2, 0), (2, 63), (0, ((i + 6 : Nat) : Int))] [] (qS v2) := by
  obtain ⟨r, v1, v2, h1, h2, h3⟩ := h
  have w1 : w32 ((i : Int) + 1) = _ := law_w 1 hi hL (by decide)
  have c1 := law_c 1 hi (by decide)
  refine ⟨v2, h3, ?_⟩
  rw [law_go hi hL, b_law_30_v5 _ _ hk, b_law_389, w1, if_pos c1, Int.toNat_natCast, b_law_395, h1, qB_some, psh_some, b_law_398, w1, if_pos c1, Int.toNat_natCast, b_law_405, h2, qB_some, psh_some, b_law_408, law_nx hi hL]
theorem law_6 (hi : (i : Int) + 6 ≤ (L : Int)) (hL : L ≤ 3072) (hk : pm_and (xs i) 63 = 6) (h : opR L xs v nX11_law nX12_law 0 []) : ∃ v2, rlR v2 ∧ qG L xs 1000 CL_law 18 [(2, 1005), (2, 0), (2, 63), (0, (i : Int))] [] (qS v) = qG L xs 1000 CL_law 18 [(2, 1005), (2, 0), (2, 63), (0, ((i + 6 : Nat) : Int))] [] (qS v2) := by
  obtain ⟨r, v1, v2, h1, h2, h3⟩ := h
  refine ⟨v2, h3, ?_⟩
  rw [law_go hi hL, b_law_30_v6 _ _ hk, b_law_412, h1, qB_some, psh_some, b_law_416, h2, qB_some, psh_some, b_law_421, law_nx hi hL]
theorem law_7 (hi : (i : Int) + 6 ≤ (L : Int)) (hL : L ≤ 3072) (hk : pm_and (xs i) 63 = 7) (h : opR L xs v nX11_way nX12_way 0 [(0, xs (i + 1)), (0, xs (i + 2))]) : ∃ v2, rlR v2 ∧ qG L xs 1000 CL_law 18 [(2, 1005), (2, 0), (2, 63), (0, (i : Int))] [] (qS v) = qG L xs 1000 CL_law 18 [(2, 1005), (2, 0), (2, 63), (0, ((i + 6 : Nat) : Int))] [] (qS v2) := by
  obtain ⟨r, v1, v2, h1, h2, h3⟩ := h
  have w1 : w32 ((i : Int) + 1) = _ := law_w 1 hi hL (by decide)
  have c1 := law_c 1 hi (by decide)
  have w2 : w32 ((i : Int) + 2) = _ := law_w 2 hi hL (by decide)
  have c2 := law_c 2 hi (by decide)
  refine ⟨v2, h3, ?_⟩
  rw [law_go hi hL, b_law_30_v7 _ _ hk, b_law_425, w1, if_pos c1, Int.toNat_natCast, b_law_431, w2, if_pos c2, Int.toNat_natCast, b_law_436, h1, qB_some, psh_some, b_law_439, w1, if_pos c1, Int.toNat_natCast, b_law_446, w2, if_pos c2, Int.toNat_natCast, b_law_451, h2, qB_some, psh_some, b_law_454, law_nx hi hL]
theorem law_8 (hi : (i : Int) + 6 ≤ (L : Int)) (hL : L ≤ 3072) (hk : pm_and (xs i) 63 = 8) (h : opR L xs v nX11_far nX12_far 0 [(0, xs (i + 1)), (0, xs (i + 2))]) : ∃ v2, rlR v2 ∧ qG L xs 1000 CL_law 18 [(2, 1005), (2, 0), (2, 63), (0, (i : Int))] [] (qS v) = qG L xs 1000 CL_law 18 [(2, 1005), (2, 0), (2, 63), (0, ((i + 6 : Nat) : Int))] [] (qS v2) := by
  obtain ⟨r, v1, v2, h1, h2, h3⟩ := h
  have w1 : w32 ((i : Int) + 1) = _ := law_w 1 hi hL (by decide)
  have c1 := law_c 1 hi (by decide)
  have w2 : w32 ((i : Int) + 2) = _ := law_w 2 hi hL (by decide)
  have c2 := law_c 2 hi (by decide)
  refine ⟨v2, h3, ?_⟩
  rw [law_go hi hL, b_law_30_v8 _ _ hk, b_law_458, w1, if_pos c1, Int.toNat_natCast, b_law_464, w2, if_pos c2, Int.toNat_natCast, b_law_469, h1, qB_some, psh_some, b_law_472, w1, if_pos c1, Int.toNat_natCast, b_law_479, w2, if_pos c2, Int.toNat_natCast, b_law_484, h2, qB_some, psh_some, b_law_487, law_nx hi hL]
theorem law_9 (hi : (i : Int) + 6 ≤ (L : Int)) (hL : L ≤ 3072) (hk : pm_and (xs i) 63 = 9) (h : opR L xs v nX11_reach nX12_reach 0 [(0, xs (i + 1)), (0, xs (i + 2))]) : ∃ v2, rlR v2 ∧ qG L xs 1000 CL_law 18 [(2, 1005), (2, 0), (2, 63), (0, (i : Int))] [] (qS v) = qG L xs 1000 CL_law 18 [(2, 1005), (2, 0), (2, 63), (0, ((i + 6 : Nat) : Int))] [] (qS v2) := by
  obtain ⟨r, v1, v2, h1, h2, h3⟩ := h
  have w1 : w32 ((i : Int) + 1) = _ := law_w 1 hi hL (by decide)
  have c1 := law_c 1 hi (by decide)
  have w2 : w32 ((i : Int) + 2) = _ := law_w 2 hi hL (by decide)
  have c2 := law_c 2 hi (by decide)
  refine ⟨v2, h3, ?_⟩
  rw [law_go hi hL, b_law_30_v9 _ _ hk, b_law_491, w1, if_pos c1, Int.toNat_natCast, b_law_497, w2, if_pos c2, Int.toNat_natCast, b_law_502, h1, qB_some, psh_some, b_law_505, w1, if_pos c1, Int.toNat_natCast, b_law_512, w2, if_pos c2, Int.toNat_natCast, b_law_517, h2, qB_some, psh_some, b_law_520, law_nx hi hL]
theorem law_10 (hi : (i : Int) + 6 ≤ (L : Int)) (hL : L ≤ 3072) (hk : pm_and (xs i) 63 = 10) (h : opR L xs v nX11_widest nX12_widest 0 []) : ∃ v2, rlR v2 ∧ qG L xs 1000 CL_law 18 [(2, 1005), (2, 0), (2, 63), (0, (i : Int))] [] (qS v) = qG L xs 1000 CL_law 18 [(2, 1005), (2, 0), (2, 63), (0, ((i + 6 : Nat) : Int))] [] (qS v2) := by
  obtain ⟨r, v1, v2, h1, h2, h3⟩ := h
  refine ⟨v2, h3, ?_⟩
  rw [law_go hi hL, b_law_30_v10 _ _ hk, b_law_524, h1, qB_some, psh_some, b_law_528, h2, qB_some, psh_some, b_law_533, law_nx hi hL]
theorem law_11 (hi : (i : Int) + 6 ≤ (L : Int)) (hL : L ≤ 3072) (hk : pm_and (xs i) 63 = 11) (h : opR L xs v nX11_dig nX12_dig 0 [(0, xs (i + 1))]) : ∃ v2, rlR v2 ∧ qG L xs 1000 CL_law 18 [(2, 1005), (2, 0), (2, 63), (0, (i : Int))] [] (qS v) = qG L xs 1000 CL_law 18 [(2, 1005), (2, 0), (2, 63), (0, ((i + 6 : Nat) : Int))] [] (qS v2) := by
  obtain ⟨r, v1, v2, h1, h2, h3⟩ := h
  have w1 : w32 ((i : Int) + 1) = _ := law_w 1 hi hL (by decide)
  have c1 := law_c 1 hi (by decide)
  refine ⟨v2, h3, ?_⟩
  rw [law_go hi hL, b_law_30_v11 _ _ hk, b_law_537, w1, if_pos c1, Int.toNat_natCast, b_law_543, h1, qB_some, psh_some, b_law_546, w1, if_pos c1, Int.toNat_natCast, b_law_553, h2, qB_some, psh_some, b_law_556, law_nx hi hL]
theorem law_12 (hi : (i : Int) + 6 ≤ (L : Int)) (hL : L ≤ 3072) (hk : pm_and (xs i) 63 = 12) (h : opR L xs v nX11_spare nX12_spare 0 [(0, xs (i + 1)), (0, xs (i + 2))]) : ∃ v2, rlR v2 ∧ qG L xs 1000 CL_law 18 [(2, 1005), (2, 0), (2, 63), (0, (i : Int))] [] (qS v) = qG L xs 1000 CL_law 18 [(2, 1005), (2, 0), (2, 63), (0, ((i + 6 : Nat) : Int))] [] (qS v2) := by
  obtain ⟨r, v1, v2, h1, h2, h3⟩ := h
  have w1 : w32 ((i : Int) + 1) = _ := law_w 1 hi hL (by decide)
  have c1 := law_c 1 hi (by decide)
  have w2 : w32 ((i : Int) + 2) = _ := law_w 2 hi hL (by decide)
  have c2 := law_c 2 hi (by decide)
  refine ⟨v2, h3, ?_⟩
  rw [law_go hi hL, b_law_30_v12 _ _ hk, b_law_560, w1, if_pos c1, Int.toNat_natCast, b_law_566, w2, if_pos c2, Int.toNat_natCast, b_law_571, h1, qB_some, psh_some, b_law_574, w1, if_pos c1, Int.toNat_natCast, b_law_581, w2, if_pos c2, Int.toNat_natCast, b_law_586, h2, qB_some, psh_some, b_law_589, law_nx hi hL]
theorem law_13 (hi : (i : Int) + 6 ≤ (L : Int)) (hL : L ≤ 3072) (hk : pm_and (xs i) 63 = 13) (h : opR L xs v nX11_pace nX12_pace 0 [(0, xs (i + 1)), (0, xs (i + 2)), (0, xs (i + 3))]) : ∃ v2, rlR v2 ∧ qG L xs 1000 CL_law 18 [(2, 1005), (2, 0), (2, 63), (0, (i : Int))] [] (qS v) = qG L xs 1000 CL_law 18 [(2, 1005), (2, 0), (2, 63), (0, ((i + 6 : Nat) : Int))] [] (qS v2) := by
  obtain ⟨r, v1, v2, h1, h2, h3⟩ := h
  have w1 : w32 ((i : Int) + 1) = _ := law_w 1 hi hL (by decide)
  have c1 := law_c 1 hi (by decide)
  have w2 : w32 ((i : Int) + 2) = _ := law_w 2 hi hL (by decide)
  have c2 := law_c 2 hi (by decide)
  have w3 : w32 ((i : Int) + 3) = _ := law_w 3 hi hL (by decide)
  have c3 := law_c 3 hi (by decide)
  refine ⟨v2, h3, ?_⟩
  rw [law_go hi hL, b_law_30_v13 _ _ hk, b_law_593, w1, if_pos c1, Int.toNat_natCast, b_law_599, w2, if_pos c2, Int.toNat_natCast, b_law_604, w3, if_pos c3, Int.toNat_natCast, b_law_609, h1, qB_some, psh_some, b_law_612, w1, if_pos c1, Int.toNat_natCast, b_law_619, w2, if_pos c2, Int.toNat_natCast, b_law_624, w3, if_pos c3, Int.toNat_natCast, b_law_629, h2, qB_some, psh_some, b_law_632, law_nx hi hL]
theorem law_14 (hi : (i : Int) + 6 ≤ (L : Int)) (hL : L ≤ 3072) (hk : pm_and (xs i) 63 = 14) (h : opR L xs v nX11_meet nX12_meet 0 [(0, xs (i + 1))]) : ∃ v2, rlR v2 ∧ qG L xs 1000 CL_law 18 [(2, 1005), (2, 0), (2, 63), (0, (i : Int))] [] (qS v) = qG L xs 1000 CL_law 18 [(2, 1005), (2, 0), (2, 63), (0, ((i + 6 : Nat) : Int))] [] (qS v2) := by
  obtain ⟨r, v1, v2, h1, h2, h3⟩ := h
  have w1 : w32 ((i : Int) + 1) = _ := law_w 1 hi hL (by decide)
  have c1 := law_c 1 hi (by decide)
  refine ⟨v2, h3, ?_⟩
  rw [law_go hi hL, b_law_30_v14 _ _ hk, b_law_636, w1, if_pos c1, Int.toNat_natCast, b_law_642, h1, qB_some, psh_some, b_law_645, w1, if_pos c1, Int.toNat_natCast, b_law_652, h2, qB_some, psh_some, b_law_655, law_nx hi hL]
theorem law_15 (hi : (i : Int) + 6 ≤ (L : Int)) (hL : L ≤ 3072) (hk : pm_and (xs i) 63 = 15) (h : opR L xs v nX11_news nX12_news 0 [(0, xs (i + 1))]) : ∃ v2, rlR v2 ∧ qG L xs 1000 CL_law 18 [(2, 1005), (2, 0), (2, 63), (0, (i : Int))] [] (qS v) = qG L xs 1000 CL_law 18 [(2, 1005), (2, 0), (2, 63), (0, ((i + 6 : Nat) : Int))] [] (qS v2) := by
  obtain ⟨r, v1, v2, h1, h2, h3⟩ := h
  have w1 : w32 ((i : Int) + 1) = _ := law_w 1 hi hL (by decide)
  have c1 := law_c 1 hi (by decide)
  refine ⟨v2, h3, ?_⟩
  rw [law_go hi hL, b_law_30_v15 _ _ hk, b_law_659, w1, if_pos c1, Int.toNat_natCast, b_law_665, h1, qB_some, psh_some, b_law_668, w1, if_pos c1, Int.toNat_natCast, b_law_675, h2, qB_some, psh_some, b_law_678, law_nx hi hL]
theorem law_16 (hi : (i : Int) + 6 ≤ (L : Int)) (hL : L ≤ 3072) (hk : pm_and (xs i) 63 = 16) (h : opR L xs v nX11_heard nX12_heard 0 [(0, xs (i + 1)), (0, xs (i + 2))]) : ∃ v2, rlR v2 ∧ qG L xs 1000 CL_law 18 [(2, 1005), (2, 0), (2, 63), (0, (i : Int))] [] (qS v) = qG L xs 1000 CL_law 18 [(2, 1005), (2, 0), (2, 63), (0, ((i + 6 : Nat) : Int))] [] (qS v2) := by
  obtain ⟨r, v1, v2, h1, h2, h3⟩ := h
  have w1 : w32 ((i : Int) + 1) = _ := law_w 1 hi hL (by decide)
  have c1 := law_c 1 hi (by decide)
  have w2 : w32 ((i : Int) + 2) = _ := law_w 2 hi hL (by decide)
  have c2 := law_c 2 hi (by decide)
  refine ⟨v2, h3, ?_⟩
  rw [law_go hi hL, b_law_30_v16 _ _ hk, b_law_682, w1, if_pos c1, Int.toNat_natCast, b_law_688, w2, if_pos c2, Int.toNat_natCast, b_law_693, h1, qB_some, psh_some, b_law_696, w1, if_pos c1, Int.toNat_natCast, b_law_703, w2, if_pos c2, Int.toNat_natCast, b_law_708, h2, qB_some, psh_some, b_law_711, law_nx hi hL]
theorem law_17 (hi : (i : Int) + 6 ≤ (L : Int)) (hL : L ≤ 3072) (hk : pm_and (xs i) 63 = 17) (h : opR L xs v nX11_whence nX12_whence 0 [(0, xs (i + 1)), (0, xs (i + 2)), (0, xs (i + 3))]) : ∃ v2, rlR v2 ∧ qG L xs 1000 CL_law 18 [(2, 1005), (2, 0), (2, 63), (0, (i : Int))] [] (qS v) = qG L xs 1000 CL_law 18 [(2, 1005), (2, 0), (2, 63), (0, ((i + 6 : Nat) : Int))] [] (qS v2) := by
  obtain ⟨r, v1, v2, h1, h2, h3⟩ := h
  have w1 : w32 ((i : Int) + 1) = _ := law_w 1 hi hL (by decide)
  have c1 := law_c 1 hi (by decide)
  have w2 : w32 ((i : Int) + 2) = _ := law_w 2 hi hL (by decide)
  have c2 := law_c 2 hi (by decide)
  have w3 : w32 ((i : Int) + 3) = _ := law_w 3 hi hL (by decide)
  have c3 := law_c 3 hi (by decide)
  refine ⟨v2, h3, ?_⟩
  rw [law_go hi hL, b_law_30_v17 _ _ hk, b_law_715, w1, if_pos c1, Int.toNat_natCast, b_law_721, w2, if_pos c2, Int.toNat_natCast, b_law_726, w3, if_pos c3, Int.toNat_natCast, b_law_731, h1, qB_some, psh_some, b_law_734, w1, if_pos c1, Int.toNat_natCast, b_law_741, w2, if_pos c2, Int.toNat_natCast, b_law_746, w3, if_pos c3, Int.toNat_natCast, b_law_751, h2, qB_some, psh_some, b_law_754, law_nx hi hL]
theorem law_18 (hi : (i : Int) + 6 ≤ (L : Int)) (hL : L ≤ 3072) (hk : pm_and (xs i) 63 = 18) (h : opR L xs v nX11_frost nX12_frost 0 [(0, xs (i + 1)), (0, xs (i + 2))]) : ∃ v2, rlR v2 ∧ qG L xs 1000 CL_law 18 [(2, 1005), (2, 0), (2, 63), (0, (i : Int))] [] (qS v) = qG L xs 1000 CL_law 18 [(2, 1005), (2, 0), (2, 63), (0, ((i + 6 : Nat) : Int))] [] (qS v2) := by
  obtain ⟨r, v1, v2, h1, h2, h3⟩ := h
  have w1 : w32 ((i : Int) + 1) = _ := law_w 1 hi hL (by decide)
  have c1 := law_c 1 hi (by decide)
  have w2 : w32 ((i : Int) + 2) = _ := law_w 2 hi hL (by decide)
  have c2 := law_c 2 hi (by decide)
  refine ⟨v2, h3, ?_⟩
  rw [law_go hi hL, b_law_30_v18 _ _ hk, b_law_758, w1, if_pos c1, Int.toNat_natCast, b_law_764, w2, if_pos c2, Int.toNat_natCast, b_law_769, h1, qB_some, psh_some, b_law_772, w1, if_pos c1, Int.toNat_natCast, b_law_779, w2, if_pos c2, Int.toNat_natCast, b_law_784, h2, qB_some, psh_some, b_law_787, law_nx hi hL]
theorem law_19 (hi : (i : Int) + 6 ≤ (L : Int)) (hL : L ≤ 3072) (hk : pm_and (xs i) 63 = 19) (h : opR L xs v nX11_frozen nX12_frozen 0 [(0, xs (i + 1))]) : ∃ v2, rlR v2 ∧ qG L xs 1000 CL_law 18 [(2, 1005), (2, 0), (2, 63), (0, (i : Int))] [] (qS v) = qG L xs 1000 CL_law 18 [(2, 1005), (2, 0), (2, 63), (0, ((i + 6 : Nat) : Int))] [] (qS v2) := by
  obtain ⟨r, v1, v2, h1, h2, h3⟩ := h
  have w1 : w32 ((i : Int) + 1) = _ := law_w 1 hi hL (by decide)
  have c1 := law_c 1 hi (by decide)
  refine ⟨v2, h3, ?_⟩
  rw [law_go hi hL, b_law_30_v19 _ _ hk, b_law_791, w1, if_pos c1, Int.toNat_natCast, b_law_797, h1, qB_some, psh_some, b_law_800, w1, if_pos c1, Int.toNat_natCast, b_law_807, h2, qB_some, psh_some, b_law_810, law_nx hi hL]
theorem law_20 (hi : (i : Int) + 6 ≤ (L : Int)) (hL : L ≤ 3072) (hk : pm_and (xs i) 63 = 20) (h : opR L xs v nX11_tax nX12_tax 0 [(0, xs (i + 1))]) : ∃ v2, rlR v2 ∧ qG L xs 1000 CL_law 18 [(2, 1005), (2, 0), (2, 63), (0, (i : Int))] [] (qS v) = qG L xs 1000 CL_law 18 [(2, 1005), (2, 0), (2, 63), (0, ((i + 6 : Nat) : Int))] [] (qS v2) := by
  obtain ⟨r, v1, v2, h1, h2, h3⟩ := h
  have w1 : w32 ((i : Int) + 1) = _ := law_w 1 hi hL (by decide)
  have c1 := law_c 1 hi (by decide)
  refine ⟨v2, h3, ?_⟩
  rw [law_go hi hL, b_law_30_v20 _ _ hk, b_law_814, w1, if_pos c1, Int.toNat_natCast, b_law_820, h1, qB_some, psh_some, b_law_823, w1, if_pos c1, Int.toNat_natCast, b_law_830, h2, qB_some, psh_some, b_law_833, law_nx hi hL]
theorem law_21 (hi : (i : Int) + 6 ≤ (L : Int)) (hL : L ≤ 3072) (hk : pm_and (xs i) 63 = 21) (h : opR L xs v nX11_lend nX12_lend 0 [(0, xs (i + 1)), (0, xs (i + 2))]) : ∃ v2, rlR v2 ∧ qG L xs 1000 CL_law 18 [(2, 1005), (2, 0), (2, 63), (0, (i : Int))] [] (qS v) = qG L xs 1000 CL_law 18 [(2, 1005), (2, 0), (2, 63), (0, ((i + 6 : Nat) : Int))] [] (qS v2) := by
  obtain ⟨r, v1, v2, h1, h2, h3⟩ := h
  have w1 : w32 ((i : Int) + 1) = _ := law_w 1 hi hL (by decide)
  have c1 := law_c 1 hi (by decide)
  have w2 : w32 ((i : Int) + 2) = _ := law_w 2 hi hL (by decide)
  have c2 := law_c 2 hi (by decide)
  refine ⟨v2, h3, ?_⟩
  rw [law_go hi hL, b_law_30_v21 _ _ hk, b_law_837, w1, if_pos c1, Int.toNat_natCast, b_law_843, w2, if_pos c2, Int.toNat_natCast, b_law_848, h1, qB_some, psh_some, b_law_851, w1, if_pos c1, Int.toNat_natCast, b_law_858, w2, if_pos c2, Int.toNat_natCast, b_law_863, h2, qB_some, psh_some, b_law_866, law_nx hi hL]
theorem law_22 (hi : (i : Int) + 6 ≤ (L : Int)) (hL : L ≤ 3072) (hk : pm_and (xs i) 63 = 22) (h : opR L xs v nX11_bricks nX12_bricks 0 [(0, xs (i + 1)), (0, xs (i + 2))]) : ∃ v2, rlR v2 ∧ qG L xs 1000 CL_law 18 [(2, 1005), (2, 0), (2, 63), (0, (i : Int))] [] (qS v) = qG L xs 1000 CL_law 18 [(2, 1005), (2, 0), (2, 63), (0, ((i + 6 : Nat) : Int))] [] (qS v2) := by
  obtain ⟨r, v1, v2, h1, h2, h3⟩ := h
  have w1 : w32 ((i : Int) + 1) = _ := law_w 1 hi hL (by decide)
  have c1 := law_c 1 hi (by decide)
  have w2 : w32 ((i : Int) + 2) = _ := law_w 2 hi hL (by decide)
  have c2 := law_c 2 hi (by decide)
  refine ⟨v2, h3, ?_⟩
  rw [law_go hi hL, b_law_30_v22 _ _ hk, b_law_870, w1, if_pos c1, Int.toNat_natCast, b_law_876, w2, if_pos c2, Int.toNat_natCast, b_law_881, h1, qB_some, psh_some, b_law_884, w1, if_pos c1, Int.toNat_natCast, b_law_891, w2, if_pos c2, Int.toNat_natCast, b_law_896, h2, qB_some, psh_some, b_law_899, law_nx hi hL]
theorem law_23 (hi : (i : Int) + 6 ≤ (L : Int)) (hL : L ≤ 3072) (hk : pm_and (xs i) 63 = 23) (h : opR L xs v nX11_oneMan nX12_oneMan 0 [(0, xs (i + 1))]) : ∃ v2, rlR v2 ∧ qG L xs 1000 CL_law 18 [(2, 1005), (2, 0), (2, 63), (0, (i : Int))] [] (qS v) = qG L xs 1000 CL_law 18 [(2, 1005), (2, 0), (2, 63), (0, ((i + 6 : Nat) : Int))] [] (qS v2) := by
  obtain ⟨r, v1, v2, h1, h2, h3⟩ := h
  have w1 : w32 ((i : Int) + 1) = _ := law_w 1 hi hL (by decide)
  have c1 := law_c 1 hi (by decide)
  refine ⟨v2, h3, ?_⟩
  rw [law_go hi hL, b_law_30_v23 _ _ hk, b_law_903, w1, if_pos c1, Int.toNat_natCast, b_law_909, h1, qB_some, psh_some, b_law_912, w1, if_pos c1, Int.toNat_natCast, b_law_919, h2, qB_some, psh_some, b_law_922, law_nx hi hL]
theorem law_24 (hi : (i : Int) + 6 ≤ (L : Int)) (hL : L ≤ 3072) (hk : pm_and (xs i) 63 = 24) (h : opE L xs v nX11_where nX12_where 0 [(0, xs (i + 1)), (0, xs (i + 2)), (0, xs (i + 3))]) : ∃ v2, rlR v2 ∧ qG L xs 1000 CL_law 18 [(2, 1005), (2, 0), (2, 63), (0, (i : Int))] [] (qS v) = qG L xs 1000 CL_law 18 [(2, 1005), (2, 0), (2, 63), (0, ((i + 6 : Nat) : Int))] [] (qS v2) := by
  obtain ⟨r, r2, v1, v2, h1, h2, h3⟩ := h
  have w1 : w32 ((i : Int) + 1) = _ := law_w 1 hi hL (by decide)
  have c1 := law_c 1 hi (by decide)
  have w2 : w32 ((i : Int) + 2) = _ := law_w 2 hi hL (by decide)
  have c2 := law_c 2 hi (by decide)
  have w3 : w32 ((i : Int) + 3) = _ := law_w 3 hi hL (by decide)
  have c3 := law_c 3 hi (by decide)
  refine ⟨v2, h3, ?_⟩
  rw [law_go hi hL, b_law_30_v24 _ _ hk, b_law_926, w1, if_pos c1, Int.toNat_natCast, b_law_932, w2, if_pos c2, Int.toNat_natCast, b_law_937, w3, if_pos c3, Int.toNat_natCast, b_law_942, h1, qB_some, psh_some, b_law_945, w1, if_pos c1, Int.toNat_natCast, b_law_952, w2, if_pos c2, Int.toNat_natCast, b_law_957, w3, if_pos c3, Int.toNat_natCast, b_law_962, h2, qB_some, psh_some, b_law_965, law_nx hi hL]
theorem law_25 (hi : (i : Int) + 6 ≤ (L : Int)) (hL : L ≤ 3072) (hk : pm_and (xs i) 63 = 25) (h : opR L xs v nX11_drawn nX12_drawn 0 [(0, xs (i + 1)), (0, xs (i + 2)), (0, xs (i + 3)), (0, xs (i + 4))]) : ∃ v2, rlR v2 ∧ qG L xs 1000 CL_law 18 [(2, 1005), (2, 0), (2, 63), (0, (i : Int))] [] (qS v) = qG L xs 1000 CL_law 18 [(2, 1005), (2, 0), (2, 63), (0, ((i + 6 : Nat) : Int))] [] (qS v2) := by
  obtain ⟨r, v1, v2, h1, h2, h3⟩ := h
  have w1 : w32 ((i : Int) + 1) = _ := law_w 1 hi hL (by decide)
  have c1 := law_c 1 hi (by decide)
  have w2 : w32 ((i : Int) + 2) = _ := law_w 2 hi hL (by decide)
  have c2 := law_c 2 hi (by decide)
  have w3 : w32 ((i : Int) + 3) = _ := law_w 3 hi hL (by decide)
  have c3 := law_c 3 hi (by decide)
  have w4 : w32 ((i : Int) + 4) = _ := law_w 4 hi hL (by decide)
  have c4 := law_c 4 hi (by decide)
  refine ⟨v2, h3, ?_⟩
  rw [law_go hi hL, b_law_30_v25 _ _ hk, b_law_969, w1, if_pos c1, Int.toNat_natCast, b_law_975, w2, if_pos c2, Int.toNat_natCast, b_law_980, w3, if_pos c3, Int.toNat_natCast, b_law_985, w4, if_pos c4, Int.toNat_natCast, b_law_990, h1, qB_some, psh_some, b_law_993, w1, if_pos c1, Int.toNat_natCast, b_law_1000, w2, if_pos c2, Int.toNat_natCast, b_law_1005, w3, if_pos c3, Int.toNat_natCast, b_law_1010, w4, if_pos c4, Int.toNat_natCast, b_law_1015, h2, qB_some, psh_some, b_law_1018, law_nx hi hL]
theorem law_26 (hi : (i : Int) + 6 ≤ (L : Int)) (hL : L ≤ 3072) (hk : pm_and (xs i) 63 = 26) (h : opR L xs v nX11_go nX12_go 0 [(0, xs (i + 1))]) : ∃ v2, rlR v2 ∧ qG L xs 1000 CL_law 18 [(2, 1005), (2, 0), (2, 63), (0, (i : Int))] [] (qS v) = qG L xs 1000 CL_law 18 [(2, 1005), (2, 0), (2, 63), (0, ((i + 6 : Nat) : Int))] [] (qS v2) := by
  obtain ⟨r, v1, v2, h1, h2, h3⟩ := h
  have w1 : w32 ((i : Int) + 1) = _ := law_w 1 hi hL (by decide)
  have c1 := law_c 1 hi (by decide)
  refine ⟨v2, h3, ?_⟩
  rw [law_go hi hL, b_law_30_v26 _ _ hk, b_law_1022, w1, if_pos c1, Int.toNat_natCast, b_law_1028, h1, qB_some, psh_some, b_law_1031, w1, if_pos c1, Int.toNat_natCast, b_law_1038, h2, qB_some, psh_some, b_law_1041, law_nx hi hL]
theorem law_27 (hi : (i : Int) + 6 ≤ (L : Int)) (hL : L ≤ 3072) (hk : pm_and (xs i) 63 = 27) (h : opR L xs v nX11_digs nX12_digs 0 []) : ∃ v2, rlR v2 ∧ qG L xs 1000 CL_law 18 [(2, 1005), (2, 0), (2, 63), (0, (i : Int))] [] (qS v) = qG L xs 1000 CL_law 18 [(2, 1005), (2, 0), (2, 63), (0, ((i + 6 : Nat) : Int))] [] (qS v2) := by
  obtain ⟨r, v1, v2, h1, h2, h3⟩ := h
  refine ⟨v2, h3, ?_⟩
  rw [law_go hi hL, b_law_30_v27 _ _ hk, b_law_1045, h1, qB_some, psh_some, b_law_1049, h2, qB_some, psh_some, b_law_1054, law_nx hi hL]
theorem law_28 (hi : (i : Int) + 6 ≤ (L : Int)) (hL : L ≤ 3072) (hk : pm_and (xs i) 63 = 28) (h : opR L xs v nX11_turn nX12_turn 0 [(0, xs (i + 1)), (0, xs (i + 2))]) : ∃ v2, rlR v2 ∧ qG L xs 1000 CL_law 18 [(2, 1005), (2, 0), (2, 63), (0, (i : Int))] [] (qS v) = qG L xs 1000 CL_law 18 [(2, 1005), (2, 0), (2, 63), (0, ((i + 6 : Nat) : Int))] [] (qS v2) := by
  obtain ⟨r, v1, v2, h1, h2, h3⟩ := h
  have w1 : w32 ((i : Int) + 1) = _ := law_w 1 hi hL (by decide)
  have c1 := law_c 1 hi (by decide)
  have w2 : w32 ((i : Int) + 2) = _ := law_w 2 hi hL (by decide)
  have c2 := law_c 2 hi (by decide)
  refine ⟨v2, h3, ?_⟩
  rw [law_go hi hL, b_law_30_v28 _ _ hk, b_law_1058, w1, if_pos c1, Int.toNat_natCast, b_law_1064, w2, if_pos c2, Int.toNat_natCast, b_law_1069, h1, qB_some, psh_some, b_law_1072, w1, if_pos c1, Int.toNat_natCast, b_law_1079, w2, if_pos c2, Int.toNat_natCast, b_law_1084, h2, qB_some, psh_some, b_law_1087, law_nx hi hL]
theorem law_29 (hi : (i : Int) + 6 ≤ (L : Int)) (hL : L ≤ 3072) (hk : pm_and (xs i) 63 = 29) (h : opR L xs v nX11_led nX12_led 0 [(0, xs (i + 1))]) : ∃ v2, rlR v2 ∧ qG L xs 1000 CL_law 18 [(2, 1005), (2, 0), (2, 63), (0, (i : Int))] [] (qS v) = qG L xs 1000 CL_law 18 [(2, 1005), (2, 0), (2, 63), (0, ((i + 6 : Nat) : Int))] [] (qS v2) := by
  obtain ⟨r, v1, v2, h1, h2, h3⟩ := h
  have w1 : w32 ((i : Int) + 1) = _ := law_w 1 hi hL (by decide)
  have c1 := law_c 1 hi (by decide)
  refine ⟨v2, h3, ?_⟩
  rw [law_go hi hL, b_law_30_v29 _ _ hk, b_law_1091, w1, if_pos c1, Int.toNat_natCast, b_law_1097, h1, qB_some, psh_some, b_law_1100, w1, if_pos c1, Int.toNat_natCast, b_law_1107, h2, qB_some, psh_some, b_law_1110, law_nx hi hL]
theorem law_30 (hi : (i : Int) + 6 ≤ (L : Int)) (hL : L ≤ 3072) (hk : pm_and (xs i) 63 = 30) (h : opR L xs v nX11_image nX12_image 0 []) : ∃ v2, rlR v2 ∧ qG L xs 1000 CL_law 18 [(2, 1005), (2, 0), (2, 63), (0, (i : Int))] [] (qS v) = qG L xs 1000 CL_law 18 [(2, 1005), (2, 0), (2, 63), (0, ((i + 6 : Nat) : Int))] [] (qS v2) := by
  obtain ⟨r, v1, v2, h1, h2, h3⟩ := h
  refine ⟨v2, h3, ?_⟩
  rw [law_go hi hL, b_law_30_v30 _ _ hk, b_law_1114, h1, qB_some, psh_some, b_law_1118, h2, qB_some, psh_some, b_law_1123, law_nx hi hL]
theorem law_31 (hi : (i : Int) + 6 ≤ (L : Int)) (hL : L ≤ 3072) (hk : pm_and (xs i) 63 = 31) (h : opR L xs v nX11_back nX12_back 0 []) : ∃ v2, rlR v2 ∧ qG L xs 1000 CL_law 18 [(2, 1005), (2, 0), (2, 63), (0, (i : Int))] [] (qS v) = qG L xs 1000 CL_law 18 [(2, 1005), (2, 0), (2, 63), (0, ((i + 6 : Nat) : Int))] [] (qS v2) := by
  obtain ⟨r, v1, v2, h1, h2, h3⟩ := h
  refine ⟨v2, h3, ?_⟩
  rw [law_go hi hL, b_law_30_v31 _ _ hk, b_law_1127, h1, qB_some, psh_some, b_law_1131, h2, qB_some, psh_some, b_law_1136, law_nx hi hL]
theorem law_32 (hi : (i : Int) + 6 ≤ (L : Int)) (hL : L ≤ 3072) (hk : pm_and (xs i) 63 = 32) (h : opR L xs v nX11_undo nX12_undo 0 []) : ∃ v2, rlR v2 ∧ qG L xs 1000 CL_law 18 [(2, 1005), (2, 0), (2, 63), (0, (i : Int))] [] (qS v) = qG L xs 1000 CL_law 18 [(2, 1005), (2, 0), (2, 63), (0, ((i + 6 : Nat) : Int))] [] (qS v2) := by
  obtain ⟨r, v1, v2, h1, h2, h3⟩ := h
  refine ⟨v2, h3, ?_⟩
  rw [law_go hi hL, b_law_30_v32 _ _ hk, b_law_1140, h1, qB_some, psh_some, b_law_1144, h2, qB_some, psh_some, b_law_1149, law_nx hi hL]
theorem law_33 (hi : (i : Int) + 6 ≤ (L : Int)) (hL : L ≤ 3072) (hk : pm_and (xs i) 63 = 33) (h : opR L xs v nX11_redo nX12_redo 0 []) : ∃ v2, rlR v2 ∧ qG L xs 1000 CL_law 18 [(2, 1005), (2, 0), (2, 63), (0, (i : Int))] [] (qS v) = qG L xs 1000 CL_law 18 [(2, 1005), (2, 0), (2, 63), (0, ((i + 6 : Nat) : Int))] [] (qS v2) := by
  obtain ⟨r, v1, v2, h1, h2, h3⟩ := h
  refine ⟨v2, h3, ?_⟩
  rw [law_go hi hL, b_law_30_v33 _ _ hk, b_law_1153, h1, qB_some, psh_some, b_law_1157, h2, qB_some, psh_some, b_law_1162, law_nx hi hL]
theorem law_34 (hi : (i : Int) + 6 ≤ (L : Int)) (hL : L ≤ 3072) (hk : pm_and (xs i) 63 = 34) (h : opR L xs v nX11_body nX12_body 0 [(0, xs (i + 1))]) : ∃ v2, rlR v2 ∧ qG L xs 1000 CL_law 18 [(2, 1005), (2, 0), (2, 63), (0, (i : Int))] [] (qS v) = qG L xs 1000 CL_law 18 [(2, 1005), (2, 0), (2, 63), (0, ((i + 6 : Nat) : Int))] [] (qS v2) := by
  obtain ⟨r, v1, v2, h1, h2, h3⟩ := h
  have w1 : w32 ((i : Int) + 1) = _ := law_w 1 hi hL (by decide)
  have c1 := law_c 1 hi (by decide)
  refine ⟨v2, h3, ?_⟩
  rw [law_go hi hL, b_law_30_v34 _ _ hk, b_law_1166, w1, if_pos c1, Int.toNat_natCast, b_law_1172, h1, qB_some, psh_some, b_law_1175, w1, if_pos c1, Int.toNat_natCast, b_law_1182, h2, qB_some, psh_some, b_law_1185, law_nx hi hL]
theorem law_35 (hi : (i : Int) + 6 ≤ (L : Int)) (hL : L ≤ 3072) (hk : pm_and (xs i) 63 = 35) (h : opR L xs v nX11_act nX12_act 0 [(0, xs (i + 1)), (0, xs (i + 2)), (0, xs (i + 3))]) : ∃ v2, rlR v2 ∧ qG L xs 1000 CL_law 18 [(2, 1005), (2, 0), (2, 63), (0, (i : Int))] [] (qS v) = qG L xs 1000 CL_law 18 [(2, 1005), (2, 0), (2, 63), (0, ((i + 6 : Nat) : Int))] [] (qS v2) := by
  obtain ⟨r, v1, v2, h1, h2, h3⟩ := h
  have w1 : w32 ((i : Int) + 1) = _ := law_w 1 hi hL (by decide)
  have c1 := law_c 1 hi (by decide)
  have w2 : w32 ((i : Int) + 2) = _ := law_w 2 hi hL (by decide)
  have c2 := law_c 2 hi (by decide)
  have w3 : w32 ((i : Int) + 3) = _ := law_w 3 hi hL (by decide)
  have c3 := law_c 3 hi (by decide)
  refine ⟨v2, h3, ?_⟩
  rw [law_go hi hL, b_law_30_v35 _ _ hk, b_law_1189, w1, if_pos c1, Int.toNat_natCast, b_law_1195, w2, if_pos c2, Int.toNat_natCast, b_law_1200, w3, if_pos c3, Int.toNat_natCast, b_law_1205, h1, qB_some, psh_some, b_law_1208, w1, if_pos c1, Int.toNat_natCast, b_law_1215, w2, if_pos c2, Int.toNat_natCast, b_law_1220, w3, if_pos c3, Int.toNat_natCast, b_law_1225, h2, qB_some, psh_some, b_law_1228, law_nx hi hL]
theorem law_36 (hi : (i : Int) + 6 ≤ (L : Int)) (hL : L ≤ 3072) (hk : pm_and (xs i) 63 = 36) (h : opR L xs v nX11_trace nX12_trace 0 [(0, xs (i + 1))]) : ∃ v2, rlR v2 ∧ qG L xs 1000 CL_law 18 [(2, 1005), (2, 0), (2, 63), (0, (i : Int))] [] (qS v) = qG L xs 1000 CL_law 18 [(2, 1005), (2, 0), (2, 63), (0, ((i + 6 : Nat) : Int))] [] (qS v2) := by
  obtain ⟨r, v1, v2, h1, h2, h3⟩ := h
  have w1 : w32 ((i : Int) + 1) = _ := law_w 1 hi hL (by decide)
  have c1 := law_c 1 hi (by decide)
  refine ⟨v2, h3, ?_⟩
  rw [law_go hi hL, b_law_30_v36 _ _ hk, b_law_1232, w1, if_pos c1, Int.toNat_natCast, b_law_1238, h1, qB_some, psh_some, b_law_1241, w1, if_pos c1, Int.toNat_natCast, b_law_1248, h2, qB_some, psh_some, b_law_1251, law_nx hi hL]
theorem law_37 (hi : (i : Int) + 6 ≤ (L : Int)) (hL : L ≤ 3072) (hk : pm_and (xs i) 63 = 37) (h : opR L xs v nX11_keep nX12_keep 0 [(0, xs (i + 1)), (0, xs (i + 2))]) : ∃ v2, rlR v2 ∧ qG L xs 1000 CL_law 18 [(2, 1005), (2, 0), (2, 63), (0, (i : Int))] [] (qS v) = qG L xs 1000 CL_law 18 [(2, 1005), (2, 0), (2, 63), (0, ((i + 6 : Nat) : Int))] [] (qS v2) := by
  obtain ⟨r, v1, v2, h1, h2, h3⟩ := h
  have w1 : w32 ((i : Int) + 1) = _ := law_w 1 hi hL (by decide)
  have c1 := law_c 1 hi (by decide)
  have w2 : w32 ((i : Int) + 2) = _ := law_w 2 hi hL (by decide)
  have c2 := law_c 2 hi (by decide)
  refine ⟨v2, h3, ?_⟩
  rw [law_go hi hL, b_law_30_v37 _ _ hk, b_law_1255, w1, if_pos c1, Int.toNat_natCast, b_law_1261, w2, if_pos c2, Int.toNat_natCast, b_law_1266, h1, qB_some, psh_some, b_law_1269, w1, if_pos c1, Int.toNat_natCast, b_law_1276, w2, if_pos c2, Int.toNat_natCast, b_law_1281, h2, qB_some, psh_some, b_law_1284, law_nx hi hL]
theorem law_38 (hi : (i : Int) + 6 ≤ (L : Int)) (hL : L ≤ 3072) (hk : pm_and (xs i) 63 = 38) (h : opR L xs v nX11_row nX12_row 0 [(0, xs (i + 1)), (0, xs (i + 2)), (0, xs (i + 3))]) : ∃ v2, rlR v2 ∧ qG L xs 1000 CL_law 18 [(2, 1005), (2, 0), (2, 63), (0, (i : Int))] [] (qS v) = qG L xs 1000 CL_law 18 [(2, 1005), (2, 0), (2, 63), (0, ((i + 6 : Nat) : Int))] [] (qS v2) := by
  obtain ⟨r, v1, v2, h1, h2, h3⟩ := h
  have w1 : w32 ((i : Int) + 1) = _ := law_w 1 hi hL (by decide)
  have c1 := law_c 1 hi (by decide)
  have w2 : w32 ((i : Int) + 2) = _ := law_w 2 hi hL (by decide)
  have c2 := law_c 2 hi (by decide)
  have w3 : w32 ((i : Int) + 3) = _ := law_w 3 hi hL (by decide)
  have c3 := law_c 3 hi (by decide)
  refine ⟨v2, h3, ?_⟩
  rw [law_go hi hL, b_law_30_v38 _ _ hk, b_law_1288, w1, if_pos c1, Int.toNat_natCast, b_law_1294, w2, if_pos c2, Int.toNat_natCast, b_law_1299, w3, if_pos c3, Int.toNat_natCast, b_law_1304, h1, qB_some, psh_some, b_law_1307, w1, if_pos c1, Int.toNat_natCast, b_law_1314, w2, if_pos c2, Int.toNat_natCast, b_law_1319, w3, if_pos c3, Int.toNat_natCast, b_law_1324, h2, qB_some, psh_some, b_law_1327, law_nx hi hL]
theorem law_39 (hi : (i : Int) + 6 ≤ (L : Int)) (hL : L ≤ 3072) (hk : pm_and (xs i) 63 = 39) (h : opR L xs v nX11_put nX12_put 0 [(0, xs (i + 1)), (0, xs (i + 2)), (1, pm_lor (pm_lsh (xs (i + 3)) 32) (pm_lnd (xs (i + 4)) 4294967295))]) : ∃ v2, rlR v2 ∧ qG L xs 1000 CL_law 18 [(2, 1005), (2, 0), (2, 63), (0, (i : Int))] [] (qS v) = qG L xs 1000 CL_law 18 [(2, 1005), (2, 0), (2, 63), (0, ((i + 6 : Nat) : Int))] [] (qS v2) := by
  obtain ⟨r, v1, v2, h1, h2, h3⟩ := h
  have w1 : w32 ((i : Int) + 1) = _ := law_w 1 hi hL (by decide)
  have c1 := law_c 1 hi (by decide)
  have w2 : w32 ((i : Int) + 2) = _ := law_w 2 hi hL (by decide)
  have c2 := law_c 2 hi (by decide)
  have w3 : w32 ((i : Int) + 3) = _ := law_w 3 hi hL (by decide)
  have c3 := law_c 3 hi (by decide)
  have w4 : w32 ((i : Int) + 4) = _ := law_w 4 hi hL (by decide)
  have c4 := law_c 4 hi (by decide)
  refine ⟨v2, h3, ?_⟩
  rw [law_go hi hL, b_law_30_v39 _ _ hk, b_law_1331, w1, if_pos c1, Int.toNat_natCast, b_law_1337, w2, if_pos c2, Int.toNat_natCast, b_law_1342, w3, if_pos c3, Int.toNat_natCast, b_law_1347, w4, if_pos c4, Int.toNat_natCast, b_law_1356, h1, qB_some, psh_some, b_law_1365, w1, if_pos c1, Int.toNat_natCast, b_law_1372, w2, if_pos c2, Int.toNat_natCast, b_law_1377, w3, if_pos c3, Int.toNat_natCast, b_law_1382, w4, if_pos c4, Int.toNat_natCast, b_law_1391, h2, qB_some, psh_some, b_law_1400, law_nx hi hL]
theorem law_40 (hi : (i : Int) + 6 ≤ (L : Int)) (hL : L ≤ 3072) (hk : pm_and (xs i) 63 = 40) (h : opR L xs v nX11_element nX12_element 1 [(0, xs (i + 1)), (0, xs (i + 2))]) : ∃ v2, rlR v2 ∧ qG L xs 1000 CL_law 18 [(2, 1005), (2, 0), (2, 63), (0, (i : Int))] [] (qS v) = qG L xs 1000 CL_law 18 [(2, 1005), (2, 0), (2, 63), (0, ((i + 6 : Nat) : Int))] [] (qS v2) := by
  obtain ⟨r, v1, v2, h1, h2, h3⟩ := h
  have w1 : w32 ((i : Int) + 1) = _ := law_w 1 hi hL (by decide)
  have c1 := law_c 1 hi (by decide)
  have w2 : w32 ((i : Int) + 2) = _ := law_w 2 hi hL (by decide)
  have c2 := law_c 2 hi (by decide)
  refine ⟨v2, h3, ?_⟩
  rw [law_go hi hL, b_law_30_v40 _ _ hk, b_law_1404, w1, if_pos c1, Int.toNat_natCast, b_law_1410, w2, if_pos c2, Int.toNat_natCast, b_law_1415, h1, qB_some, psh_some, b_law_1418, w1, if_pos c1, Int.toNat_natCast, b_law_1425, w2, if_pos c2, Int.toNat_natCast, b_law_1430, h2, qB_some, psh_some, b_law_1433, law_nx hi hL]
theorem law_41 (hi : (i : Int) + 6 ≤ (L : Int)) (hL : L ≤ 3072) (hk : pm_and (xs i) 63 = 41) (h : opR L xs v nX11_shift nX12_shift 0 [(0, xs (i + 1)), (0, xs (i + 2)), (0, xs (i + 3)), (0, xs (i + 4)), (0, xs (i + 5))]) : ∃ v2, rlR v2 ∧ qG L xs 1000 CL_law 18 [(2, 1005), (2, 0), (2, 63), (0, (i : Int))] [] (qS v) = qG L xs 1000 CL_law 18 [(2, 1005), (2, 0), (2, 63), (0, ((i + 6 : Nat) : Int))] [] (qS v2) := by
  obtain ⟨r, v1, v2, h1, h2, h3⟩ := h
  have w1 : w32 ((i : Int) + 1) = _ := law_w 1 hi hL (by decide)
  have c1 := law_c 1 hi (by decide)
  have w2 : w32 ((i : Int) + 2) = _ := law_w 2 hi hL (by decide)
  have c2 := law_c 2 hi (by decide)
  have w3 : w32 ((i : Int) + 3) = _ := law_w 3 hi hL (by decide)
  have c3 := law_c 3 hi (by decide)
  have w4 : w32 ((i : Int) + 4) = _ := law_w 4 hi hL (by decide)
  have c4 := law_c 4 hi (by decide)
  have w5 : w32 ((i : Int) + 5) = _ := law_w 5 hi hL (by decide)
  have c5 := law_c 5 hi (by decide)
  refine ⟨v2, h3, ?_⟩
  rw [law_go hi hL, b_law_30_v41 _ _ hk, b_law_1437, w1, if_pos c1, Int.toNat_natCast, b_law_1443, w2, if_pos c2, Int.toNat_natCast, b_law_1448, w3, if_pos c3, Int.toNat_natCast, b_law_1453, w4, if_pos c4, Int.toNat_natCast, b_law_1458, w5, if_pos c5, Int.toNat_natCast, b_law_1463, h1, qB_some, psh_some, b_law_1466, w1, if_pos c1, Int.toNat_natCast, b_law_1473, w2, if_pos c2, Int.toNat_natCast, b_law_1478, w3, if_pos c3, Int.toNat_natCast, b_law_1483, w4, if_pos c4, Int.toNat_natCast, b_law_1488, w5, if_pos c5, Int.toNat_natCast, b_law_1493, h2, qB_some, psh_some, b_law_1496, law_nx hi hL]
theorem law_42 (hi : (i : Int) + 6 ≤ (L : Int)) (hL : L ≤ 3072) (hk : pm_and (xs i) 63 = 42) (h : opR L xs v nX11_taken nX12_taken 0 [(0, xs (i + 1)), (0, xs (i + 2))]) : ∃ v2, rlR v2 ∧ qG L xs 1000 CL_law 18 [(2, 1005), (2, 0), (2, 63), (0, (i : Int))] [] (qS v) = qG L xs 1000 CL_law 18 [(2, 1005), (2, 0), (2, 63), (0, ((i + 6 : Nat) : Int))] [] (qS v2) := by
  obtain ⟨r, v1, v2, h1, h2, h3⟩ := h
  have w1 : w32 ((i : Int) + 1) = _ := law_w 1 hi hL (by decide)
  have c1 := law_c 1 hi (by decide)
  have w2 : w32 ((i : Int) + 2) = _ := law_w 2 hi hL (by decide)
  have c2 := law_c 2 hi (by decide)
  refine ⟨v2, h3, ?_⟩
  rw [law_go hi hL, b_law_30_v42 _ _ hk, b_law_1500, w1, if_pos c1, Int.toNat_natCast, b_law_1506, w2, if_pos c2, Int.toNat_natCast, b_law_1511, h1, qB_some, psh_some, b_law_1514, w1, if_pos c1, Int.toNat_natCast, b_law_1521, w2, if_pos c2, Int.toNat_natCast, b_law_1526, h2, qB_some, psh_some, b_law_1529, law_nx hi hL]
theorem law_43 (hi : (i : Int) + 6 ≤ (L : Int)) (hL : L ≤ 3072) (hk : pm_and (xs i) 63 = 43) (h : opR L xs v nX11_count nX12_count 0 [(0, xs (i + 1))]) : ∃ v2, rlR v2 ∧ qG L xs 1000 CL_law 18 [(2, 1005), (2, 0), (2, 63), (0, (i : Int))] [] (qS v) = qG L xs 1000 CL_law 18 [(2, 1005), (2, 0), (2, 63), (0, ((i + 6 : Nat) : Int))] [] (qS v2) := by
  obtain ⟨r, v1, v2, h1, h2, h3⟩ := h
  have w1 : w32 ((i : Int) + 1) = _ := law_w 1 hi hL (by decide)
  have c1 := law_c 1 hi (by decide)
  refine ⟨v2, h3, ?_⟩
  rw [law_go hi hL, b_law_30_v43 _ _ hk, b_law_1533, w1, if_pos c1, Int.toNat_natCast, b_law_1539, h1, qB_some, psh_some, b_law_1542, w1, if_pos c1, Int.toNat_natCast, b_law_1548, h2, qB_some, psh_some, b_law_1551, if_pos rfl, law_nx hi hL]
theorem law_rest (hi : (i : Int) + 6 ≤ (L : Int)) (hL : L ≤ 3072) (hk : pm_and (xs i) 63 < 0 ∨ 43 < pm_and (xs i) 63) : qG L xs 1000 CL_law 18 [(2, 1005), (2, 0), (2, 63), (0, (i : Int))] [] (qS v) = qG L xs 1000 CL_law 18 [(2, 1005), (2, 0), (2, 63), (0, ((i + 6 : Nat) : Int))] [] (qS v) := by
  rw [law_go hi hL, b_law_30_o _ _ hk, law_nx hi hL]
theorem law_step (h : rlR v) (hx : ∀ j, -2147483648 ≤ xs j ∧ xs j < 2147483648) (hi : (i : Int) + 6 ≤ (L : Int)) (hL : L ≤ 3072) : ∃ v2, rlR v2 ∧ qG L xs 1000 CL_law 18 [(2, 1005), (2, 0), (2, 63), (0, (i : Int))] [] (qS v) = qG L xs 1000 CL_law 18 [(2, 1005), (2, 0), (2, 63), (0, ((i + 6 : Nat) : Int))] [] (qS v2) := by
  by_cases hk : pm_and (xs i) 63 < 0 ∨ 43 < pm_and (xs i) 63
  · exact ⟨v, h, law_rest hi hL hk⟩
  · have h44 : pm_and (xs i) 63 = 0 ∨ pm_and (xs i) 63 = 1 ∨ pm_and (xs i) 63 = 2 ∨ pm_and (xs i) 63 = 3 ∨ pm_and (xs i) 63 = 4 ∨ pm_and (xs i) 63 = 5 ∨ pm_and (xs i) 63 = 6 ∨ pm_and (xs i) 63 = 7 ∨ pm_and (xs i) 63 = 8 ∨ pm_and (xs i) 63 = 9 ∨ pm_and (xs i) 63 = 10 ∨ pm_and (xs i) 63 = 11 ∨ pm_and (xs i) 63 = 12 ∨ pm_and (xs i) 63 = 13 ∨ pm_and (xs i) 63 = 14 ∨ pm_and (xs i) 63 = 15 ∨ pm_and (xs i) 63 = 16 ∨ pm_and (xs i) 63 = 17 ∨ pm_and (xs i) 63 = 18 ∨ pm_and (xs i) 63 = 19 ∨ pm_and (xs i) 63 = 20 ∨ pm_and (xs i) 63 = 21 ∨ pm_and (xs i) 63 = 22 ∨ pm_and (xs i) 63 = 23 ∨ pm_and (xs i) 63 = 24 ∨ pm_and (xs i) 63 = 25 ∨ pm_and (xs i) 63 = 26 ∨ pm_and (xs i) 63 = 27 ∨ pm_and (xs i) 63 = 28 ∨ pm_and (xs i) 63 = 29 ∨ pm_and (xs i) 63 = 30 ∨ pm_and (xs i) 63 = 31 ∨ pm_and (xs i) 63 = 32 ∨ pm_and (xs i) 63 = 33 ∨ pm_and (xs i) 63 = 34 ∨ pm_and (xs i) 63 = 35 ∨ pm_and (xs i) 63 = 36 ∨ pm_and (xs i) 63 = 37 ∨ pm_and (xs i) 63 = 38 ∨ pm_and (xs i) 63 = 39 ∨ pm_and (xs i) 63 = 40 ∨ pm_and (xs i) 63 = 41 ∨ pm_and (xs i) 63 = 42 ∨ pm_and (xs i) 63 = 43 := by omega
    rcases h44 with hk | hk | hk | hk | hk | hk | hk | hk | hk | hk | hk | hk | hk | hk | hk | hk | hk | hk | hk | hk | hk | hk | hk | hk | hk | hk | hk | hk | hk | hk | hk | hk | hk | hk | hk | hk | hk | hk | hk | hk | hk | hk | hk | hk
    · exact law_0 hi hL hk (opr_hole h _)
    · exact law_1 hi hL hk (opr_lane h _ (hx _).2)
    · exact law_2 hi hL hk (opr_mend h _ _ _)
    · exact law_3 hi hL hk (opr_of h _ _)
    · exact law_4 hi hL hk (opr_yards h _ _ _ (hx _) (hx _).2)
    · exact law_5 hi hL hk (opr_feed h _)
    · exact law_6 hi hL hk (opr_law h)
    · exact law_7 hi hL hk (opr_way h _ _ (hx _).2)
    · exact law_8 hi hL hk (opr_far h _ _)
    · exact law_9 hi hL hk (opr_reach h _ _ (hx _).2)
    · exact law_10 hi hL hk (opr_widest h)
    · exact law_11 hi hL hk (opr_dig h _)
    · exact law_12 hi hL hk (opr_spare h _ _ (hx _).2)
    · exact law_13 hi hL hk (opr_pace h _ _ _ (hx _).2)
    · exact law_14 hi hL hk (opr_meet h _ (hx _).2)
    · exact law_15 hi hL hk (opr_news h _ (hx _).2)
    · exact law_16 hi hL hk (opr_heard h _ _)
    · exact law_17 hi hL hk (opr_whence h _ _ _ (hx _).2)
    · exact law_18 hi hL hk (opr_frost h _ _)
    · exact law_19 hi hL hk (opr_frozen h _)
    · exact law_20 hi hL hk (opr_tax h _)
    · exact law_21 hi hL hk (opr_lend h _ _ (hx _).2)
    · exact law_22 hi hL hk (opr_bricks h _ _ (hx _).2)
    · exact law_23 hi hL hk (opr_oneMan h _)
    · exact law_24 hi hL hk (opr_where h _ _ _)
    · exact law_25 hi hL hk (opr_drawn h _ _ _ _)
    · exact law_26 hi hL hk (opr_go h _)
    · exact law_27 hi hL hk (opr_digs h)
    · exact law_28 hi hL hk (opr_turn h _ _)
    · exact law_29 hi hL hk (opr_led h _)
    · exact law_30 hi hL hk (opr_image h)
    · exact law_31 hi hL hk (opr_back h)
    · exact law_32 hi hL hk (opr_undo h)
    · exact law_33 hi hL hk (opr_redo h)
    · exact law_34 hi hL hk (opr_body h _)
    · exact law_35 hi hL hk (opr_act h _ _ _)
    · exact law_36 hi hL hk (opr_trace h _)
    · exact law_37 hi hL hk (opr_keep h _ _)
    · exact law_38 hi hL hk (opr_row h _ _ _)
    · exact law_39 hi hL hk (opr_put h _ _ _ (hx _).2 (i64_lt _))
    · exact law_40 hi hL hk (opr_element h _ _ (hx _).2)
    · exact law_41 hi hL hk (opr_shift h _ _ _ _ _ (hx _).2 (hx _).2 (hx _).2)
    · exact law_42 hi hL hk (opr_taken h _ _)
    · exact law_43 hi hL hk (opr_count h _)
theorem law_all (hx : ∀ j, -2147483648 ≤ xs j ∧ xs j < 2147483648) (hL : L ≤ 3072) : ∀ (n i : Nat) (v : Nat → Nat → Int), rlR v → L ≤ i + 6 * n → ∃ v2, qG L xs 1000 CL_law 18 [(2, 1005), (2, 0), (2, 63), (0, (i : Int))] [] (qS v) = some (some (0, 1), qS v2)
  | 0, i, v, h, hn => by
    refine ⟨v, ?_⟩
    rw [b_law_18, w32_id (by omega) (by omega), if_pos (by omega), b_law_1562]
  | n + 1, i, v, h, hn => by
    by_cases g : (i : Int) + 6 ≤ (L : Int)
    · obtain ⟨v1, h1, e1⟩ := law_step h hx g hL
      obtain ⟨v2, e2⟩ := law_all hx hL n (i + 6) v1 h1 (by omega)
      exact ⟨v2, e1.trans e2⟩
    · refine ⟨v, ?_⟩
      rw [b_law_18, w32_id (by omega) (by omega), if_pos (by omega), b_law_1562]
end LZ
