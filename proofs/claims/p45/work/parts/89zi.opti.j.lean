/-! JOINED: 89zi.opti, 89zj.optj -/
section
/-! THE JDK: what indexOf answers of the ten texts (written by wip/gen_jdk.py) -/
section OTI
variable {L : Nat} {xs : Nat → Int} {d : Nat} {v : Nat → Nat → Int}
theorem e_J1_canEncode_9a6ad (x0 : Int) (σ : pm_S) : qE L xs (d + 1) nJ1_canEncode_9a6ad [(0, x0)] σ = qG L xs d CJ1_canEncode_9a6ad 0 [(0, x0)] [] σ := rfl
theorem b_J1_canEncode_9a6ad_0 (x0 : Int) : qG L xs d CJ1_canEncode_9a6ad 0 [(0, x0)] [] (qS v) = if x0 < 0 then qG L xs d CJ1_canEncode_9a6ad 15 [(0, x0)] [] (qS v) else qG L xs d CJ1_canEncode_9a6ad 4 [(0, x0)] [] (qS v) := (qG_stk 2 _ _ _ _).trans qG_if
theorem b_J1_canEncode_9a6ad_4 (x0 : Int) : qG L xs d CJ1_canEncode_9a6ad 4 [(0, x0)] [] (qS v) = if 255 < x0 then qG L xs d CJ1_canEncode_9a6ad 15 [(0, x0)] [] (qS v) else qG L xs d CJ1_canEncode_9a6ad 11 [(0, x0)] [] (qS v) := (qG_stk 3 _ _ _ _).trans qG_if
theorem b_J1_canEncode_9a6ad_11 (x0 : Int) : qG L xs d CJ1_canEncode_9a6ad 11 [(0, x0)] [] (qS v) = qG L xs d CJ1_canEncode_9a6ad 16 [(0, x0)] [(0, 1)] (qS v) := qG_stk 2 _ _ _ _
theorem b_J1_canEncode_9a6ad_16 (x0 : Int) (y0 : Int) : qG L xs d CJ1_canEncode_9a6ad 16 [(0, x0)] [(0, y0)] (qS v) = if y0 = 0 ∨ y0 = 1 then some (some (0, y0), qS v) else none := qG_retb _ _ rfl
theorem e_J0_coder_7d493_0 (σ : pm_S) : qE L xs (d + 1) nJ0_coder_7d493 [(2, 2000)] σ = qG L xs d CJ0_coder_7d493 0 [(2, 2000)] [] σ := rfl
theorem b_J0_coder_7d493_0_0 : qG L xs d CJ0_coder_7d493 0 [(2, 2000)] [] (qS v) = qG L xs d CJ0_coder_7d493 6 [(2, 2000)] [] (qS v) := qG_stk 2 _ _ _ _
theorem b_J0_coder_7d493_0_6 : qG L xs d CJ0_coder_7d493 6 [(2, 2000)] [] (qS v) = qG L xs d CJ0_coder_7d493 14 [(2, 2000)] [(0, 0)] (qS v) := qG_stk 3 _ _ _ _
theorem e_J0_isLatin1_aae02_0 (σ : pm_S) : qE L xs (d + 1) nJ0_isLatin1_aae02 [(2, 2000)] σ = qG L xs d CJ0_isLatin1_aae02 0 [(2, 2000)] [] σ := rfl
theorem b_J0_isLatin1_aae02_0_0 : qG L xs d CJ0_isLatin1_aae02 0 [(2, 2000)] [] (qS v) = qG L xs d CJ0_isLatin1_aae02 6 [(2, 2000)] [] (qS v) := qG_stk 2 _ _ _ _
theorem b_J0_isLatin1_aae02_0_6 : qG L xs d CJ0_isLatin1_aae02 6 [(2, 2000)] [] (qS v) = qG L xs d CJ0_isLatin1_aae02 13 [(2, 2000)] [] (qS v) := qG_stk 3 _ _ _ _
theorem b_J0_isLatin1_aae02_0_13 : qG L xs d CJ0_isLatin1_aae02 13 [(2, 2000)] [] (qS v) = qG L xs d CJ0_isLatin1_aae02 18 [(2, 2000)] [(0, 1)] (qS v) := qG_stk 2 _ _ _ _
theorem b_J0_isLatin1_aae02_0_18 (y0 : Int) : qG L xs d CJ0_isLatin1_aae02 18 [(2, 2000)] [(0, y0)] (qS v) = if y0 = 0 ∨ y0 = 1 then some (some (0, y0), qS v) else none := qG_retb _ _ rfl
theorem e_J0_length_8abf5_0 (σ : pm_S) : qE L xs (d + 1) nJ0_length_8abf5 [(2, 2000)] σ = qG L xs d CJ0_length_8abf5 0 [(2, 2000)] [] σ := rfl
theorem b_J0_length_8abf5_0_0 : qG L xs d CJ0_length_8abf5 0 [(2, 2000)] [] (qS v) = qB (qE L xs d nJ0_coder_7d493 [(2, 2000)] (qS v)) (fun r σ => qG L xs d CJ0_length_8abf5 9 [(2, 2000)] (pm_psh r [(0, 6)]) σ) := (qG_stk 4 _ _ _ _).trans (qG_call (as := [(2, 2000)]) (rest := [(0, 6)]) rfl rfl rfl)
theorem b_J0_length_8abf5_0_9 (y0 : Int) (y1 : Int) : qG L xs d CJ0_length_8abf5 9 [(2, 2000)] [(0, y1), (0, y0)] (qS v) = some (some (0, pm_shr y0 y1), qS v) := qG_stk 2 _ _ _ _
theorem e_J0_indexOf_0f7a4_0 (x1 : Int) (σ : pm_S) : qE L xs (d + 1) nJ0_indexOf_0f7a4 [(2, 2000), (0, x1)] σ = qG L xs d CJ0_indexOf_0f7a4 0 [(2, 2000), (0, x1)] [] σ := rfl
theorem b_J0_indexOf_0f7a4_0_0 (x1 : Int) : qG L xs d CJ0_indexOf_0f7a4 0 [(2, 2000), (0, x1)] [] (qS v) = qB (qE L xs d nJ0_indexOf_7cf53 [(2, 2000), (0, x1), (0, 0)] (qS v)) (fun r σ => qG L xs d CJ0_indexOf_0f7a4 6 [(2, 2000), (0, x1)] (pm_psh r []) σ) := (qG_stk 3 _ _ _ _).trans (qG_call (as := [(2, 2000), (0, x1), (0, 0)]) (rest := []) rfl rfl rfl)
theorem b_J0_indexOf_0f7a4_0_6 (x1 : Int) (y0 : Int) : qG L xs d CJ0_indexOf_0f7a4 6 [(2, 2000), (0, x1)] [(0, y0)] (qS v) = some (some (0, y0), qS v) := qG_stk 1 _ _ _ _
theorem e_J0_indexOf_7cf53_0 (x1 : Int) (x2 : Int) (σ : pm_S) : qE L xs (d + 1) nJ0_indexOf_7cf53 [(2, 2000), (0, x1), (0, x2)] σ = qG L xs d CJ0_indexOf_7cf53 0 [(2, 2000), (0, x1), (0, x2)] [] σ := rfl
theorem b_J0_indexOf_7cf53_0_0 (x1 : Int) (x2 : Int) : qG L xs d CJ0_indexOf_7cf53 0 [(2, 2000), (0, x1), (0, x2)] [] (qS v) = qB (qE L xs d nJ0_isLatin1_aae02 [(2, 2000)] (qS v)) (fun r σ => qG L xs d CJ0_indexOf_7cf53 4 [(2, 2000), (0, x1), (0, x2)] (pm_psh r []) σ) := (qG_stk 1 _ _ _ _).trans (qG_call (as := [(2, 2000)]) (rest := []) rfl rfl rfl)
theorem b_J0_indexOf_7cf53_0_4 (x1 : Int) (x2 : Int) (y0 : Int) : qG L xs d CJ0_indexOf_7cf53 4 [(2, 2000), (0, x1), (0, x2)] [(0, y0)] (qS v) = if y0 = 0 then qG L xs d CJ0_indexOf_7cf53 23 [(2, 2000), (0, x1), (0, x2)] [] (qS v) else qG L xs d CJ0_indexOf_7cf53 7 [(2, 2000), (0, x1), (0, x2)] [] (qS v) := (qG_stk 1 _ _ _ _).trans qG_if
theorem b_J0_indexOf_7cf53_0_7 (x1 : Int) (x2 : Int) : qG L xs d CJ0_indexOf_7cf53 7 [(2, 2000), (0, x1), (0, x2)] [] (qS v) = qB (qE L xs d nJ0_length_8abf5 [(2, 2000)] (qS v)) (fun r σ => qG L xs d CJ0_indexOf_7cf53 17 [(2, 2000), (0, x1), (0, x2)] (pm_psh r [(0, x2), (0, x1), (2, 1010)]) σ) := (qG_stk 5 _ _ _ _).trans (qG_call (as := [(2, 2000)]) (rest := [(0, x2), (0, x1), (2, 1010)]) rfl rfl rfl)
theorem b_J0_indexOf_7cf53_0_17 (x1 : Int) (x2 : Int) (y1 : Int) (y2 : Int) (y3 : Int) : qG L xs d CJ0_indexOf_7cf53 17 [(2, 2000), (0, x1), (0, x2)] [(0, y3), (0, y2), (0, y1), (2, 1010)] (qS v) = qB (qE L xs d nJ1_indexOf_4cfef [(2, 1010), (0, y1), (0, y2), (0, y3)] (qS v)) (fun r σ => qG L xs d CJ0_indexOf_7cf53 20 [(2, 2000), (0, x1), (0, x2)] (pm_psh r []) σ) := qG_call (as := [(2, 1010), (0, y1), (0, y2), (0, y3)]) (rest := []) rfl rfl rfl
theorem b_J0_indexOf_7cf53_0_20 (x1 : Int) (x2 : Int) (y0 : Int) : qG L xs d CJ0_indexOf_7cf53 20 [(2, 2000), (0, x1), (0, x2)] [(0, y0)] (qS v) = qG L xs d CJ0_indexOf_7cf53 36 [(2, 2000), (0, x1), (0, x2)] [(0, y0)] (qS v) := qG_stk 1 _ _ _ _
theorem b_J0_indexOf_7cf53_0_36 (x1 : Int) (x2 : Int) (y0 : Int) : qG L xs d CJ0_indexOf_7cf53 36 [(2, 2000), (0, x1), (0, x2)] [(0, y0)] (qS v) = some (some (0, y0), qS v) := qG_stk 1 _ _ _ _
theorem e_J1_indexOf_4cfef_0 (x1 : Int) (x2 : Int) (x3 : Int) (σ : pm_S) : qE L xs (d + 1) nJ1_indexOf_4cfef [(2, 1010), (0, x1), (0, x2), (0, x3)] σ = qG L xs d CJ1_indexOf_4cfef 0 [(2, 1010), (0, x1), (0, x2), (0, x3)] [] σ := rfl
theorem b_J1_indexOf_4cfef_0_0 (x1 : Int) (x2 : Int) (x3 : Int) : qG L xs d CJ1_indexOf_4cfef 0 [(2, 1010), (0, x1), (0, x2), (0, x3)] [] (qS v) = qB (qE L xs d nJ1_canEncode_9a6ad [(0, x1)] (qS v)) (fun r σ => qG L xs d CJ1_indexOf_4cfef 4 [(2, 1010), (0, x1), (0, x2), (0, x3)] (pm_psh r []) σ) := (qG_stk 1 _ _ _ _).trans (qG_call (as := [(0, x1)]) (rest := []) rfl rfl rfl)
theorem b_J1_indexOf_4cfef_0_4 (x1 : Int) (x2 : Int) (x3 : Int) (y0 : Int) : qG L xs d CJ1_indexOf_4cfef 4 [(2, 1010), (0, x1), (0, x2), (0, x3)] [(0, y0)] (qS v) = if y0 = 0 then qG L xs d CJ1_indexOf_4cfef 7 [(2, 1010), (0, x1), (0, x2), (0, x3)] [] (qS v) else qG L xs d CJ1_indexOf_4cfef 9 [(2, 1010), (0, x1), (0, x2), (0, x3)] [] (qS v) := (qG_stk 1 _ _ _ _).trans qG_if
theorem b_J1_indexOf_4cfef_0_9 (x1 : Int) (x2 : Int) (x3 : Int) : qG L xs d CJ1_indexOf_4cfef 9 [(2, 1010), (0, x1), (0, x2), (0, x3)] [] (qS v) = if pm_max x2 0 < pm_min x3 6 then qG L xs d CJ1_indexOf_4cfef 29 [(2, 1010), (0, x1), (0, pm_max x2 0), (0, pm_min x3 6)] [] (qS v) else qG L xs d CJ1_indexOf_4cfef 27 [(2, 1010), (0, x1), (0, pm_max x2 0), (0, pm_min x3 6)] [] (qS v) := (qG_stk 12 _ _ _ _).trans qG_if
theorem b_J1_indexOf_4cfef_0_29 (x1 : Int) (x2 : Int) (x3 : Int) : qG L xs d CJ1_indexOf_4cfef 29 [(2, 1010), (0, x1), (0, x2), (0, x3)] [] (qS v) = qB (qE L xs d nJ1_indexOfChar_4cfef [(2, 1010), (0, x1), (0, x2), (0, x3)] (qS v)) (fun r σ => qG L xs d CJ1_indexOf_4cfef 36 [(2, 1010), (0, x1), (0, x2), (0, x3)] (pm_psh r []) σ) := (qG_stk 4 _ _ _ _).trans (qG_call (as := [(2, 1010), (0, x1), (0, x2), (0, x3)]) (rest := []) rfl rfl rfl)
theorem b_J1_indexOf_4cfef_0_36 (x1 : Int) (x2 : Int) (x3 : Int) (y0 : Int) : qG L xs d CJ1_indexOf_4cfef 36 [(2, 1010), (0, x1), (0, x2), (0, x3)] [(0, y0)] (qS v) = some (some (0, y0), qS v) := qG_stk 1 _ _ _ _
theorem e_J1_indexOfChar_4cfef_0 (x1 : Int) (x2 : Int) (x3 : Int) (σ : pm_S) : qE L xs (d + 1) nJ1_indexOfChar_4cfef [(2, 1010), (0, x1), (0, x2), (0, x3)] σ = qG L xs d CJ1_indexOfChar_4cfef 0 [(2, 1010), (0, x1), (0, x2), (0, x3), (9, 0), (9, 0)] [] σ := rfl
theorem b_J1_indexOfChar_4cfef_0_0 (x1 : Int) (x2 : Int) (x3 : Int) : qG L xs d CJ1_indexOfChar_4cfef 0 [(2, 1010), (0, x1), (0, x2), (0, x3), (9, 0), (9, 0)] [] (qS v) = qG L xs d CJ1_indexOfChar_4cfef 7 [(2, 1010), (0, x1), (0, x2), (0, x3), (0, w8 x1), (0, x2)] [] (qS v) := qG_stk 5 _ _ _ _
theorem b_J1_indexOfChar_4cfef_0_7 (x1 : Int) (x2 : Int) (x3 : Int) (x4 : Int) (x5 : Int) : qG L xs d CJ1_indexOfChar_4cfef 7 [(2, 1010), (0, x1), (0, x2), (0, x3), (0, x4), (0, x5)] [] (qS v) = if x5 < x3 then qG L xs d CJ1_indexOfChar_4cfef 13 [(2, 1010), (0, x1), (0, x2), (0, x3), (0, x4), (0, x5)] [] (qS v) else qG L xs d CJ1_indexOfChar_4cfef 31 [(2, 1010), (0, x1), (0, x2), (0, x3), (0, x4), (0, x5)] [] (qS v) := (qG_stk 3 _ _ _ _).trans qG_if
theorem b_J1_indexOfChar_4cfef_0_13 (x1 : Int) (x2 : Int) (x3 : Int) (x4 : Int) (x5 : Int) : qG L xs d CJ1_indexOfChar_4cfef 13 [(2, 1010), (0, x1), (0, x2), (0, x3), (0, x4), (0, x5)] [] (qS v) = if 0 ≤ x5 ∧ x5 < 6 then qG L xs d CJ1_indexOfChar_4cfef 17 [(2, 1010), (0, x1), (0, x2), (0, x3), (0, x4), (0, x5)] [(0, pm_lof [116, 119, 111, 115, 121, 100] (Int.toNat x5))] (qS v) else none := (qG_stk 2 _ _ _ _).trans (qG_ald (n := 6) (t := 0) (f := pm_lof [116, 119, 111, 115, 121, 100]) rfl rfl)
theorem b_J1_indexOfChar_4cfef_0_17 (x1 : Int) (x2 : Int) (x3 : Int) (x4 : Int) (x5 : Int) (y0 : Int) : qG L xs d CJ1_indexOfChar_4cfef 17 [(2, 1010), (0, x1), (0, x2), (0, x3), (0, x4), (0, x5)] [(0, y0)] (qS v) = if y0 = x4 then qG L xs d CJ1_indexOfChar_4cfef 22 [(2, 1010), (0, x1), (0, x2), (0, x3), (0, x4), (0, x5)] [] (qS v) else qG L xs d CJ1_indexOfChar_4cfef 25 [(2, 1010), (0, x1), (0, x2), (0, x3), (0, x4), (0, x5)] [] (qS v) := (qG_stk 2 _ _ _ _).trans qG_if
theorem b_J1_indexOfChar_4cfef_0_22 (x1 : Int) (x2 : Int) (x3 : Int) (x4 : Int) (x5 : Int) : qG L xs d CJ1_indexOfChar_4cfef 22 [(2, 1010), (0, x1), (0, x2), (0, x3), (0, x4), (0, x5)] [] (qS v) = some (some (0, x5), qS v) := qG_stk 2 _ _ _ _
theorem b_J1_indexOfChar_4cfef_0_25 (x1 : Int) (x2 : Int) (x3 : Int) (x4 : Int) (x5 : Int) : qG L xs d CJ1_indexOfChar_4cfef 25 [(2, 1010), (0, x1), (0, x2), (0, x3), (0, x4), (0, x5)] [] (qS v) = qG L xs d CJ1_indexOfChar_4cfef 7 [(2, 1010), (0, x1), (0, x2), (0, x3), (0, x4), (0, w32 (x5 + 1))] [] (qS v) := qG_stk 2 _ _ _ _
theorem b_J1_indexOfChar_4cfef_0_31 (x1 : Int) (x2 : Int) (x3 : Int) (x4 : Int) (x5 : Int) : qG L xs d CJ1_indexOfChar_4cfef 31 [(2, 1010), (0, x1), (0, x2), (0, x3), (0, x4), (0, x5)] [] (qS v) = some (some (0, (-1)), qS v) := qG_stk 2 _ _ _ _
theorem e_J0_coder_7d493_1 (σ : pm_S) : qE L xs (d + 1) nJ0_coder_7d493 [(2, 2001)] σ = qG L xs d CJ0_coder_7d493 0 [(2, 2001)] [] σ := rfl
theorem b_J0_coder_7d493_1_0 : qG L xs d CJ0_coder_7d493 0 [(2, 2001)] [] (qS v) = qG L xs d CJ0_coder_7d493 6 [(2, 2001)] [] (qS v) := qG_stk 2 _ _ _ _
theorem b_J0_coder_7d493_1_6 : qG L xs d CJ0_coder_7d493 6 [(2, 2001)] [] (qS v) = qG L xs d CJ0_coder_7d493 14 [(2, 2001)] [(0, 0)] (qS v) := qG_stk 3 _ _ _ _
theorem e_J0_isLatin1_aae02_1 (σ : pm_S) : qE L xs (d + 1) nJ0_isLatin1_aae02 [(2, 2001)] σ = qG L xs d CJ0_isLatin1_aae02 0 [(2, 2001)] [] σ := rfl
theorem b_J0_isLatin1_aae02_1_0 : qG L xs d CJ0_isLatin1_aae02 0 [(2, 2001)] [] (qS v) = qG L xs d CJ0_isLatin1_aae02 6 [(2, 2001)] [] (qS v) := qG_stk 2 _ _ _ _
theorem b_J0_isLatin1_aae02_1_6 : qG L xs d CJ0_isLatin1_aae02 6 [(2, 2001)] [] (qS v) = qG L xs d CJ0_isLatin1_aae02 13 [(2, 2001)] [] (qS v) := qG_stk 3 _ _ _ _
theorem b_J0_isLatin1_aae02_1_13 : qG L xs d CJ0_isLatin1_aae02 13 [(2, 2001)] [] (qS v) = qG L xs d CJ0_isLatin1_aae02 18 [(2, 2001)] [(0, 1)] (qS v) := qG_stk 2 _ _ _ _
theorem b_J0_isLatin1_aae02_1_18 (y0 : Int) : qG L xs d CJ0_isLatin1_aae02 18 [(2, 2001)] [(0, y0)] (qS v) = if y0 = 0 ∨ y0 = 1 then some (some (0, y0), qS v) else none := qG_retb _ _ rfl
theorem e_J0_length_8abf5_1 (σ : pm_S) : qE L xs (d + 1) nJ0_length_8abf5 [(2, 2001)] σ = qG L xs d CJ0_length_8abf5 0 [(2, 2001)] [] σ := rfl
theorem b_J0_length_8abf5_1_0 : qG L xs d CJ0_length_8abf5 0 [(2, 2001)] [] (qS v) = qB (qE L xs d nJ0_coder_7d493 [(2, 2001)] (qS v)) (fun r σ => qG L xs d CJ0_length_8abf5 9 [(2, 2001)] (pm_psh r [(0, 3)]) σ) := (qG_stk 4 _ _ _ _).trans (qG_call (as := [(2, 2001)]) (rest := [(0, 3)]) rfl rfl rfl)
theorem b_J0_length_8abf5_1_9 (y0 : Int) (y1 : Int) : qG L xs d CJ0_length_8abf5 9 [(2, 2001)] [(0, y1), (0, y0)] (qS v) = some (some (0, pm_shr y0 y1), qS v) := qG_stk 2 _ _ _ _
theorem e_J0_indexOf_0f7a4_1 (x1 : Int) (σ : pm_S) : qE L xs (d + 1) nJ0_indexOf_0f7a4 [(2, 2001), (0, x1)] σ = qG L xs d CJ0_indexOf_0f7a4 0 [(2, 2001), (0, x1)] [] σ := rfl
theorem b_J0_indexOf_0f7a4_1_0 (x1 : Int) : qG L xs d CJ0_indexOf_0f7a4 0 [(2, 2001), (0, x1)] [] (qS v) = qB (qE L xs d nJ0_indexOf_7cf53 [(2, 2001), (0, x1), (0, 0)] (qS v)) (fun r σ => qG L xs d CJ0_indexOf_0f7a4 6 [(2, 2001), (0, x1)] (pm_psh r []) σ) := (qG_stk 3 _ _ _ _).trans (qG_call (as := [(2, 2001), (0, x1), (0, 0)]) (rest := []) rfl rfl rfl)
theorem b_J0_indexOf_0f7a4_1_6 (x1 : Int) (y0 : Int) : qG L xs d CJ0_indexOf_0f7a4 6 [(2, 2001), (0, x1)] [(0, y0)] (qS v) = some (some (0, y0), qS v) := qG_stk 1 _ _ _ _
theorem e_J0_indexOf_7cf53_1 (x1 : Int) (x2 : Int) (σ : pm_S) : qE L xs (d + 1) nJ0_indexOf_7cf53 [(2, 2001), (0, x1), (0, x2)] σ = qG L xs d CJ0_indexOf_7cf53 0 [(2, 2001), (0, x1), (0, x2)] [] σ := rfl
theorem b_J0_indexOf_7cf53_1_0 (x1 : Int) (x2 : Int) : qG L xs d CJ0_indexOf_7cf53 0 [(2, 2001), (0, x1), (0, x2)] [] (qS v) = qB (qE L xs d nJ0_isLatin1_aae02 [(2, 2001)] (qS v)) (fun r σ => qG L xs d CJ0_indexOf_7cf53 4 [(2, 2001), (0, x1), (0, x2)] (pm_psh r []) σ) := (qG_stk 1 _ _ _ _).trans (qG_call (as := [(2, 2001)]) (rest := []) rfl rfl rfl)
theorem b_J0_indexOf_7cf53_1_4 (x1 : Int) (x2 : Int) (y0 : Int) : qG L xs d CJ0_indexOf_7cf53 4 [(2, 2001), (0, x1), (0, x2)] [(0, y0)] (qS v) = if y0 = 0 then qG L xs d CJ0_indexOf_7cf53 23 [(2, 2001), (0, x1), (0, x2)] [] (qS v) else qG L xs d CJ0_indexOf_7cf53 7 [(2, 2001), (0, x1), (0, x2)] [] (qS v) := (qG_stk 1 _ _ _ _).trans qG_if
theorem b_J0_indexOf_7cf53_1_7 (x1 : Int) (x2 : Int) : qG L xs d CJ0_indexOf_7cf53 7 [(2, 2001), (0, x1), (0, x2)] [] (qS v) = qB (qE L xs d nJ0_length_8abf5 [(2, 2001)] (qS v)) (fun r σ => qG L xs d CJ0_indexOf_7cf53 17 [(2, 2001), (0, x1), (0, x2)] (pm_psh r [(0, x2), (0, x1), (2, 1011)]) σ) := (qG_stk 5 _ _ _ _).trans (qG_call (as := [(2, 2001)]) (rest := [(0, x2), (0, x1), (2, 1011)]) rfl rfl rfl)
theorem b_J0_indexOf_7cf53_1_17 (x1 : Int) (x2 : Int) (y1 : Int) (y2 : Int) (y3 : Int) : qG L xs d CJ0_indexOf_7cf53 17 [(2, 2001), (0, x1), (0, x2)] [(0, y3), (0, y2), (0, y1), (2, 1011)] (qS v) = qB (qE L xs d nJ1_indexOf_4cfef [(2, 1011), (0, y1), (0, y2), (0, y3)] (qS v)) (fun r σ => qG L xs d CJ0_indexOf_7cf53 20 [(2, 2001), (0, x1), (0, x2)] (pm_psh r []) σ) := qG_call (as := [(2, 1011), (0, y1), (0, y2), (0, y3)]) (rest := []) rfl rfl rfl
theorem b_J0_indexOf_7cf53_1_20 (x1 : Int) (x2 : Int) (y0 : Int) : qG L xs d CJ0_indexOf_7cf53 20 [(2, 2001), (0, x1), (0, x2)] [(0, y0)] (qS v) = qG L xs d CJ0_indexOf_7cf53 36 [(2, 2001), (0, x1), (0, x2)] [(0, y0)] (qS v) := qG_stk 1 _ _ _ _
theorem b_J0_indexOf_7cf53_1_36 (x1 : Int) (x2 : Int) (y0 : Int) : qG L xs d CJ0_indexOf_7cf53 36 [(2, 2001), (0, x1), (0, x2)] [(0, y0)] (qS v) = some (some (0, y0), qS v) := qG_stk 1 _ _ _ _
theorem e_J1_indexOf_4cfef_1 (x1 : Int) (x2 : Int) (x3 : Int) (σ : pm_S) : qE L xs (d + 1) nJ1_indexOf_4cfef [(2, 1011), (0, x1), (0, x2), (0, x3)] σ = qG L xs d CJ1_indexOf_4cfef 0 [(2, 1011), (0, x1), (0, x2), (0, x3)] [] σ := rfl
theorem b_J1_indexOf_4cfef_1_0 (x1 : Int) (x2 : Int) (x3 : Int) : qG L xs d CJ1_indexOf_4cfef 0 [(2, 1011), (0, x1), (0, x2), (0, x3)] [] (qS v) = qB (qE L xs d nJ1_canEncode_9a6ad [(0, x1)] (qS v)) (fun r σ => qG L xs d CJ1_indexOf_4cfef 4 [(2, 1011), (0, x1), (0, x2), (0, x3)] (pm_psh r []) σ) := (qG_stk 1 _ _ _ _).trans (qG_call (as := [(0, x1)]) (rest := []) rfl rfl rfl)
theorem b_J1_indexOf_4cfef_1_4 (x1 : Int) (x2 : Int) (x3 : Int) (y0 : Int) : qG L xs d CJ1_indexOf_4cfef 4 [(2, 1011), (0, x1), (0, x2), (0, x3)] [(0, y0)] (qS v) = if y0 = 0 then qG L xs d CJ1_indexOf_4cfef 7 [(2, 1011), (0, x1), (0, x2), (0, x3)] [] (qS v) else qG L xs d CJ1_indexOf_4cfef 9 [(2, 1011), (0, x1), (0, x2), (0, x3)] [] (qS v) := (qG_stk 1 _ _ _ _).trans qG_if
theorem b_J1_indexOf_4cfef_1_9 (x1 : Int) (x2 : Int) (x3 : Int) : qG L xs d CJ1_indexOf_4cfef 9 [(2, 1011), (0, x1), (0, x2), (0, x3)] [] (qS v) = if pm_max x2 0 < pm_min x3 3 then qG L xs d CJ1_indexOf_4cfef 29 [(2, 1011), (0, x1), (0, pm_max x2 0), (0, pm_min x3 3)] [] (qS v) else qG L xs d CJ1_indexOf_4cfef 27 [(2, 1011), (0, x1), (0, pm_max x2 0), (0, pm_min x3 3)] [] (qS v) := (qG_stk 12 _ _ _ _).trans qG_if
theorem b_J1_indexOf_4cfef_1_29 (x1 : Int) (x2 : Int) (x3 : Int) : qG L xs d CJ1_indexOf_4cfef 29 [(2, 1011), (0, x1), (0, x2), (0, x3)] [] (qS v) = qB (qE L xs d nJ1_indexOfChar_4cfef [(2, 1011), (0, x1), (0, x2), (0, x3)] (qS v)) (fun r σ => qG L xs d CJ1_indexOf_4cfef 36 [(2, 1011), (0, x1), (0, x2), (0, x3)] (pm_psh r []) σ) := (qG_stk 4 _ _ _ _).trans (qG_call (as := [(2, 1011), (0, x1), (0, x2), (0, x3)]) (rest := []) rfl rfl rfl)
theorem b_J1_indexOf_4cfef_1_36 (x1 : Int) (x2 : Int) (x3 : Int) (y0 : Int) : qG L xs d CJ1_indexOf_4cfef 36 [(2, 1011), (0, x1), (0, x2), (0, x3)] [(0, y0)] (qS v) = some (some (0, y0), qS v) := qG_stk 1 _ _ _ _
theorem e_J1_indexOfChar_4cfef_1 (x1 : Int) (x2 : Int) (x3 : Int) (σ : pm_S) : qE L xs (d + 1) nJ1_indexOfChar_4cfef [(2, 1011), (0, x1), (0, x2), (0, x3)] σ = qG L xs d CJ1_indexOfChar_4cfef 0 [(2, 1011), (0, x1), (0, x2), (0, x3), (9, 0), (9, 0)] [] σ := rfl
theorem b_J1_indexOfChar_4cfef_1_0 (x1 : Int) (x2 : Int) (x3 : Int) : qG L xs d CJ1_indexOfChar_4cfef 0 [(2, 1011), (0, x1), (0, x2), (0, x3), (9, 0), (9, 0)] [] (qS v) = qG L xs d CJ1_indexOfChar_4cfef 7 [(2, 1011), (0, x1), (0, x2), (0, x3), (0, w8 x1), (0, x2)] [] (qS v) := qG_stk 5 _ _ _ _
theorem b_J1_indexOfChar_4cfef_1_7 (x1 : Int) (x2 : Int) (x3 : Int) (x4 : Int) (x5 : Int) : qG L xs d CJ1_indexOfChar_4cfef 7 [(2, 1011), (0, x1), (0, x2), (0, x3), (0, x4), (0, x5)] [] (qS v) = if x5 < x3 then qG L xs d CJ1_indexOfChar_4cfef 13 [(2, 1011), (0, x1), (0, x2), (0, x3), (0, x4), (0, x5)] [] (qS v) else qG L xs d CJ1_indexOfChar_4cfef 31 [(2, 1011), (0, x1), (0, x2), (0, x3), (0, x4), (0, x5)] [] (qS v) := (qG_stk 3 _ _ _ _).trans qG_if
theorem b_J1_indexOfChar_4cfef_1_13 (x1 : Int) (x2 : Int) (x3 : Int) (x4 : Int) (x5 : Int) : qG L xs d CJ1_indexOfChar_4cfef 13 [(2, 1011), (0, x1), (0, x2), (0, x3), (0, x4), (0, x5)] [] (qS v) = if 0 ≤ x5 ∧ x5 < 3 then qG L xs d CJ1_indexOfChar_4cfef 17 [(2, 1011), (0, x1), (0, x2), (0, x3), (0, x4), (0, x5)] [(0, pm_lof [40, 33, 45] (Int.toNat x5))] (qS v) else none := (qG_stk 2 _ _ _ _).trans (qG_ald (n := 3) (t := 0) (f := pm_lof [40, 33, 45]) rfl rfl)
theorem b_J1_indexOfChar_4cfef_1_17 (x1 : Int) (x2 : Int) (x3 : Int) (x4 : Int) (x5 : Int) (y0 : Int) : qG L xs d CJ1_indexOfChar_4cfef 17 [(2, 1011), (0, x1), (0, x2), (0, x3), (0, x4), (0, x5)] [(0, y0)] (qS v) = if y0 = x4 then qG L xs d CJ1_indexOfChar_4cfef 22 [(2, 1011), (0, x1), (0, x2), (0, x3), (0, x4), (0, x5)] [] (qS v) else qG L xs d CJ1_indexOfChar_4cfef 25 [(2, 1011), (0, x1), (0, x2), (0, x3), (0, x4), (0, x5)] [] (qS v) := (qG_stk 2 _ _ _ _).trans qG_if
theorem b_J1_indexOfChar_4cfef_1_22 (x1 : Int) (x2 : Int) (x3 : Int) (x4 : Int) (x5 : Int) : qG L xs d CJ1_indexOfChar_4cfef 22 [(2, 1011), (0, x1), (0, x2), (0, x3), (0, x4), (0, x5)] [] (qS v) = some (some (0, x5), qS v) := qG_stk 2 _ _ _ _
theorem b_J1_indexOfChar_4cfef_1_25 (x1 : Int) (x2 : Int) (x3 : Int) (x4 : Int) (x5 : Int) : qG L xs d CJ1_indexOfChar_4cfef 25 [(2, 1011), (0, x1), (0, x2), (0, x3), (0, x4), (0, x5)] [] (qS v) = qG L xs d CJ1_indexOfChar_4cfef 7 [(2, 1011), (0, x1), (0, x2), (0, x3), (0, x4), (0, w32 (x5 + 1))] [] (qS v) := qG_stk 2 _ _ _ _
theorem b_J1_indexOfChar_4cfef_1_31 (x1 : Int) (x2 : Int) (x3 : Int) (x4 : Int) (x5 : Int) : qG L xs d CJ1_indexOfChar_4cfef 31 [(2, 1011), (0, x1), (0, x2), (0, x3), (0, x4), (0, x5)] [] (qS v) = some (some (0, (-1)), qS v) := qG_stk 2 _ _ _ _
theorem e_J0_coder_7d493_2 (σ : pm_S) : qE L xs (d + 1) nJ0_coder_7d493 [(2, 2002)] σ = qG L xs d CJ0_coder_7d493 0 [(2, 2002)] [] σ := rfl
theorem b_J0_coder_7d493_2_0 : qG L xs d CJ0_coder_7d493 0 [(2, 2002)] [] (qS v) = qG L xs d CJ0_coder_7d493 6 [(2, 2002)] [] (qS v) := qG_stk 2 _ _ _ _
theorem b_J0_coder_7d493_2_6 : qG L xs d CJ0_coder_7d493 6 [(2, 2002)] [] (qS v) = qG L xs d CJ0_coder_7d493 14 [(2, 2002)] [(0, 0)] (qS v) := qG_stk 3 _ _ _ _
theorem e_J0_isLatin1_aae02_2 (σ : pm_S) : qE L xs (d + 1) nJ0_isLatin1_aae02 [(2, 2002)] σ = qG L xs d CJ0_isLatin1_aae02 0 [(2, 2002)] [] σ := rfl
theorem b_J0_isLatin1_aae02_2_0 : qG L xs d CJ0_isLatin1_aae02 0 [(2, 2002)] [] (qS v) = qG L xs d CJ0_isLatin1_aae02 6 [(2, 2002)] [] (qS v) := qG_stk 2 _ _ _ _
theorem b_J0_isLatin1_aae02_2_6 : qG L xs d CJ0_isLatin1_aae02 6 [(2, 2002)] [] (qS v) = qG L xs d CJ0_isLatin1_aae02 13 [(2, 2002)] [] (qS v) := qG_stk 3 _ _ _ _
theorem b_J0_isLatin1_aae02_2_13 : qG L xs d CJ0_isLatin1_aae02 13 [(2, 2002)] [] (qS v) = qG L xs d CJ0_isLatin1_aae02 18 [(2, 2002)] [(0, 1)] (qS v) := qG_stk 2 _ _ _ _
theorem b_J0_isLatin1_aae02_2_18 (y0 : Int) : qG L xs d CJ0_isLatin1_aae02 18 [(2, 2002)] [(0, y0)] (qS v) = if y0 = 0 ∨ y0 = 1 then some (some (0, y0), qS v) else none := qG_retb _ _ rfl
theorem e_J0_length_8abf5_2 (σ : pm_S) : qE L xs (d + 1) nJ0_length_8abf5 [(2, 2002)] σ = qG L xs d CJ0_length_8abf5 0 [(2, 2002)] [] σ := rfl
theorem b_J0_length_8abf5_2_0 : qG L xs d CJ0_length_8abf5 0 [(2, 2002)] [] (qS v) = qB (qE L xs d nJ0_coder_7d493 [(2, 2002)] (qS v)) (fun r σ => qG L xs d CJ0_length_8abf5 9 [(2, 2002)] (pm_psh r [(0, 1)]) σ) := (qG_stk 4 _ _ _ _).trans (qG_call (as := [(2, 2002)]) (rest := [(0, 1)]) rfl rfl rfl)
theorem b_J0_length_8abf5_2_9 (y0 : Int) (y1 : Int) : qG L xs d CJ0_length_8abf5 9 [(2, 2002)] [(0, y1), (0, y0)] (qS v) = some (some (0, pm_shr y0 y1), qS v) := qG_stk 2 _ _ _ _
theorem e_J0_indexOf_0f7a4_2 (x1 : Int) (σ : pm_S) : qE L xs (d + 1) nJ0_indexOf_0f7a4 [(2, 2002), (0, x1)] σ = qG L xs d CJ0_indexOf_0f7a4 0 [(2, 2002), (0, x1)] [] σ := rfl
theorem b_J0_indexOf_0f7a4_2_0 (x1 : Int) : qG L xs d CJ0_indexOf_0f7a4 0 [(2, 2002), (0, x1)] [] (qS v) = qB (qE L xs d nJ0_indexOf_7cf53 [(2, 2002), (0, x1), (0, 0)] (qS v)) (fun r σ => qG L xs d CJ0_indexOf_0f7a4 6 [(2, 2002), (0, x1)] (pm_psh r []) σ) := (qG_stk 3 _ _ _ _).trans (qG_call (as := [(2, 2002), (0, x1), (0, 0)]) (rest := []) rfl rfl rfl)
theorem b_J0_indexOf_0f7a4_2_6 (x1 : Int) (y0 : Int) : qG L xs d CJ0_indexOf_0f7a4 6 [(2, 2002), (0, x1)] [(0, y0)] (qS v) = some (some (0, y0), qS v) := qG_stk 1 _ _ _ _
theorem e_J0_indexOf_7cf53_2 (x1 : Int) (x2 : Int) (σ : pm_S) : qE L xs (d + 1) nJ0_indexOf_7cf53 [(2, 2002), (0, x1), (0, x2)] σ = qG L xs d CJ0_indexOf_7cf53 0 [(2, 2002), (0, x1), (0, x2)] [] σ := rfl
theorem b_J0_indexOf_7cf53_2_0 (x1 : Int) (x2 : Int) : qG L xs d CJ0_indexOf_7cf53 0 [(2, 2002), (0, x1), (0, x2)] [] (qS v) = qB (qE L xs d nJ0_isLatin1_aae02 [(2, 2002)] (qS v)) (fun r σ => qG L xs d CJ0_indexOf_7cf53 4 [(2, 2002), (0, x1), (0, x2)] (pm_psh r []) σ) := (qG_stk 1 _ _ _ _).trans (qG_call (as := [(2, 2002)]) (rest := []) rfl rfl rfl)
theorem b_J0_indexOf_7cf53_2_4 (x1 : Int) (x2 : Int) (y0 : Int) : qG L xs d CJ0_indexOf_7cf53 4 [(2, 2002), (0, x1), (0, x2)] [(0, y0)] (qS v) = if y0 = 0 then qG L xs d CJ0_indexOf_7cf53 23 [(2, 2002), (0, x1), (0, x2)] [] (qS v) else qG L xs d CJ0_indexOf_7cf53 7 [(2, 2002), (0, x1), (0, x2)] [] (qS v) := (qG_stk 1 _ _ _ _).trans qG_if
theorem b_J0_indexOf_7cf53_2_7 (x1 : Int) (x2 : Int) : qG L xs d CJ0_indexOf_7cf53 7 [(2, 2002), (0, x1), (0, x2)] [] (qS v) = qB (qE L xs d nJ0_length_8abf5 [(2, 2002)] (qS v)) (fun r σ => qG L xs d CJ0_indexOf_7cf53 17 [(2, 2002), (0, x1), (0, x2)] (pm_psh r [(0, x2), (0, x1), (2, 1012)]) σ) := (qG_stk 5 _ _ _ _).trans (qG_call (as := [(2, 2002)]) (rest := [(0, x2), (0, x1), (2, 1012)]) rfl rfl rfl)
theorem b_J0_indexOf_7cf53_2_17 (x1 : Int) (x2 : Int) (y1 : Int) (y2 : Int) (y3 : Int) : qG L xs d CJ0_indexOf_7cf53 17 [(2, 2002), (0, x1), (0, x2)] [(0, y3), (0, y2), (0, y1), (2, 1012)] (qS v) = qB (qE L xs d nJ1_indexOf_4cfef [(2, 1012), (0, y1), (0, y2), (0, y3)] (qS v)) (fun r σ => qG L xs d CJ0_indexOf_7cf53 20 [(2, 2002), (0, x1), (0, x2)] (pm_psh r []) σ) := qG_call (as := [(2, 1012), (0, y1), (0, y2), (0, y3)]) (rest := []) rfl rfl rfl
theorem b_J0_indexOf_7cf53_2_20 (x1 : Int) (x2 : Int) (y0 : Int) : qG L xs d CJ0_indexOf_7cf53 20 [(2, 2002), (0, x1), (0, x2)] [(0, y0)] (qS v) = qG L xs d CJ0_indexOf_7cf53 36 [(2, 2002), (0, x1), (0, x2)] [(0, y0)] (qS v) := qG_stk 1 _ _ _ _
theorem b_J0_indexOf_7cf53_2_36 (x1 : Int) (x2 : Int) (y0 : Int) : qG L xs d CJ0_indexOf_7cf53 36 [(2, 2002), (0, x1), (0, x2)] [(0, y0)] (qS v) = some (some (0, y0), qS v) := qG_stk 1 _ _ _ _
theorem e_J1_indexOf_4cfef_2 (x1 : Int) (x2 : Int) (x3 : Int) (σ : pm_S) : qE L xs (d + 1) nJ1_indexOf_4cfef [(2, 1012), (0, x1), (0, x2), (0, x3)] σ = qG L xs d CJ1_indexOf_4cfef 0 [(2, 1012), (0, x1), (0, x2), (0, x3)] [] σ := rfl
theorem b_J1_indexOf_4cfef_2_0 (x1 : Int) (x2 : Int) (x3 : Int) : qG L xs d CJ1_indexOf_4cfef 0 [(2, 1012), (0, x1), (0, x2), (0, x3)] [] (qS v) = qB (qE L xs d nJ1_canEncode_9a6ad [(0, x1)] (qS v)) (fun r σ => qG L xs d CJ1_indexOf_4cfef 4 [(2, 1012), (0, x1), (0, x2), (0, x3)] (pm_psh r []) σ) := (qG_stk 1 _ _ _ _).trans (qG_call (as := [(0, x1)]) (rest := []) rfl rfl rfl)
theorem b_J1_indexOf_4cfef_2_4 (x1 : Int) (x2 : Int) (x3 : Int) (y0 : Int) : qG L xs d CJ1_indexOf_4cfef 4 [(2, 1012), (0, x1), (0, x2), (0, x3)] [(0, y0)] (qS v) = if y0 = 0 then qG L xs d CJ1_indexOf_4cfef 7 [(2, 1012), (0, x1), (0, x2), (0, x3)] [] (qS v) else qG L xs d CJ1_indexOf_4cfef 9 [(2, 1012), (0, x1), (0, x2), (0, x3)] [] (qS v) := (qG_stk 1 _ _ _ _).trans qG_if
theorem b_J1_indexOf_4cfef_2_9 (x1 : Int) (x2 : Int) (x3 : Int) : qG L xs d CJ1_indexOf_4cfef 9 [(2, 1012), (0, x1), (0, x2), (0, x3)] [] (qS v) = if pm_max x2 0 < pm_min x3 1 then qG L xs d CJ1_indexOf_4cfef 29 [(2, 1012), (0, x1), (0, pm_max x2 0), (0, pm_min x3 1)] [] (qS v) else qG L xs d CJ1_indexOf_4cfef 27 [(2, 1012), (0, x1), (0, pm_max x2 0), (0, pm_min x3 1)] [] (qS v) := (qG_stk 12 _ _ _ _).trans qG_if
theorem b_J1_indexOf_4cfef_2_29 (x1 : Int) (x2 : Int) (x3 : Int) : qG L xs d CJ1_indexOf_4cfef 29 [(2, 1012), (0, x1), (0, x2), (0, x3)] [] (qS v) = qB (qE L xs d nJ1_indexOfChar_4cfef [(2, 1012), (0, x1), (0, x2), (0, x3)] (qS v)) (fun r σ => qG L xs d CJ1_indexOf_4cfef 36 [(2, 1012), (0, x1), (0, x2), (0, x3)] (pm_psh r []) σ) := (qG_stk 4 _ _ _ _).trans (qG_call (as := [(2, 1012), (0, x1), (0, x2), (0, x3)]) (rest := []) rfl rfl rfl)
theorem b_J1_indexOf_4cfef_2_36 (x1 : Int) (x2 : Int) (x3 : Int) (y0 : Int) : qG L xs d CJ1_indexOf_4cfef 36 [(2, 1012), (0, x1), (0, x2), (0, x3)] [(0, y0)] (qS v) = some (some (0, y0), qS v) := qG_stk 1 _ _ _ _
theorem e_J1_indexOfChar_4cfef_2 (x1 : Int) (x2 : Int) (x3 : Int) (σ : pm_S) : qE L xs (d + 1) nJ1_indexOfChar_4cfef [(2, 1012), (0, x1), (0, x2), (0, x3)] σ = qG L xs d CJ1_indexOfChar_4cfef 0 [(2, 1012), (0, x1), (0, x2), (0, x3), (9, 0), (9, 0)] [] σ := rfl
theorem b_J1_indexOfChar_4cfef_2_0 (x1 : Int) (x2 : Int) (x3 : Int) : qG L xs d CJ1_indexOfChar_4cfef 0 [(2, 1012), (0, x1), (0, x2), (0, x3), (9, 0), (9, 0)] [] (qS v) = qG L xs d CJ1_indexOfChar_4cfef 7 [(2, 1012), (0, x1), (0, x2), (0, x3), (0, w8 x1), (0, x2)] [] (qS v) := qG_stk 5 _ _ _ _
theorem b_J1_indexOfChar_4cfef_2_7 (x1 : Int) (x2 : Int) (x3 : Int) (x4 : Int) (x5 : Int) : qG L xs d CJ1_indexOfChar_4cfef 7 [(2, 1012), (0, x1), (0, x2), (0, x3), (0, x4), (0, x5)] [] (qS v) = if x5 < x3 then qG L xs d CJ1_indexOfChar_4cfef 13 [(2, 1012), (0, x1), (0, x2), (0, x3), (0, x4), (0, x5)] [] (qS v) else qG L xs d CJ1_indexOfChar_4cfef 31 [(2, 1012), (0, x1), (0, x2), (0, x3), (0, x4), (0, x5)] [] (qS v) := (qG_stk 3 _ _ _ _).trans qG_if
theorem b_J1_indexOfChar_4cfef_2_13 (x1 : Int) (x2 : Int) (x3 : Int) (x4 : Int) (x5 : Int) : qG L xs d CJ1_indexOfChar_4cfef 13 [(2, 1012), (0, x1), (0, x2), (0, x3), (0, x4), (0, x5)] [] (qS v) = if 0 ≤ x5 ∧ x5 < 1 then qG L xs d CJ1_indexOfChar_4cfef 17 [(2, 1012), (0, x1), (0, x2), (0, x3), (0, x4), (0, x5)] [(0, pm_lof [41] (Int.toNat x5))] (qS v) else none := (qG_stk 2 _ _ _ _).trans (qG_ald (n := 1) (t := 0) (f := pm_lof [41]) rfl rfl)
theorem b_J1_indexOfChar_4cfef_2_17 (x1 : Int) (x2 : Int) (x3 : Int) (x4 : Int) (x5 : Int) (y0 : Int) : qG L xs d CJ1_indexOfChar_4cfef 17 [(2, 1012), (0, x1), (0, x2), (0, x3), (0, x4), (0, x5)] [(0, y0)] (qS v) = if y0 = x4 then qG L xs d CJ1_indexOfChar_4cfef 22 [(2, 1012), (0, x1), (0, x2), (0, x3), (0, x4), (0, x5)] [] (qS v) else qG L xs d CJ1_indexOfChar_4cfef 25 [(2, 1012), (0, x1), (0, x2), (0, x3), (0, x4), (0, x5)] [] (qS v) := (qG_stk 2 _ _ _ _).trans qG_if
theorem b_J1_indexOfChar_4cfef_2_22 (x1 : Int) (x2 : Int) (x3 : Int) (x4 : Int) (x5 : Int) : qG L xs d CJ1_indexOfChar_4cfef 22 [(2, 1012), (0, x1), (0, x2), (0, x3), (0, x4), (0, x5)] [] (qS v) = some (some (0, x5), qS v) := qG_stk 2 _ _ _ _
theorem b_J1_indexOfChar_4cfef_2_25 (x1 : Int) (x2 : Int) (x3 : Int) (x4 : Int) (x5 : Int) : qG L xs d CJ1_indexOfChar_4cfef 25 [(2, 1012), (0, x1), (0, x2), (0, x3), (0, x4), (0, x5)] [] (qS v) = qG L xs d CJ1_indexOfChar_4cfef 7 [(2, 1012), (0, x1), (0, x2), (0, x3), (0, x4), (0, w32 (x5 + 1))] [] (qS v) := qG_stk 2 _ _ _ _
theorem b_J1_indexOfChar_4cfef_2_31 (x1 : Int) (x2 : Int) (x3 : Int) (x4 : Int) (x5 : Int) : qG L xs d CJ1_indexOfChar_4cfef 31 [(2, 1012), (0, x1), (0, x2), (0, x3), (0, x4), (0, x5)] [] (qS v) = some (some (0, (-1)), qS v) := qG_stk 2 _ _ _ _
theorem e_J0_coder_7d493_3 (σ : pm_S) : qE L xs (d + 1) nJ0_coder_7d493 [(2, 2003)] σ = qG L xs d CJ0_coder_7d493 0 [(2, 2003)] [] σ := rfl
theorem b_J0_coder_7d493_3_0 : qG L xs d CJ0_coder_7d493 0 [(2, 2003)] [] (qS v) = qG L xs d CJ0_coder_7d493 6 [(2, 2003)] [] (qS v) := qG_stk 2 _ _ _ _
theorem b_J0_coder_7d493_3_6 : qG L xs d CJ0_coder_7d493 6 [(2, 2003)] [] (qS v) = qG L xs d CJ0_coder_7d493 14 [(2, 2003)] [(0, 0)] (qS v) := qG_stk 3 _ _ _ _
theorem e_J0_isLatin1_aae02_3 (σ : pm_S) : qE L xs (d + 1) nJ0_isLatin1_aae02 [(2, 2003)] σ = qG L xs d CJ0_isLatin1_aae02 0 [(2, 2003)] [] σ := rfl
theorem b_J0_isLatin1_aae02_3_0 : qG L xs d CJ0_isLatin1_aae02 0 [(2, 2003)] [] (qS v) = qG L xs d CJ0_isLatin1_aae02 6 [(2, 2003)] [] (qS v) := qG_stk 2 _ _ _ _
theorem b_J0_isLatin1_aae02_3_6 : qG L xs d CJ0_isLatin1_aae02 6 [(2, 2003)] [] (qS v) = qG L xs d CJ0_isLatin1_aae02 13 [(2, 2003)] [] (qS v) := qG_stk 3 _ _ _ _
theorem b_J0_isLatin1_aae02_3_13 : qG L xs d CJ0_isLatin1_aae02 13 [(2, 2003)] [] (qS v) = qG L xs d CJ0_isLatin1_aae02 18 [(2, 2003)] [(0, 1)] (qS v) := qG_stk 2 _ _ _ _
theorem b_J0_isLatin1_aae02_3_18 (y0 : Int) : qG L xs d CJ0_isLatin1_aae02 18 [(2, 2003)] [(0, y0)] (qS v) = if y0 = 0 ∨ y0 = 1 then some (some (0, y0), qS v) else none := qG_retb _ _ rfl
theorem e_J0_length_8abf5_3 (σ : pm_S) : qE L xs (d + 1) nJ0_length_8abf5 [(2, 2003)] σ = qG L xs d CJ0_length_8abf5 0 [(2, 2003)] [] σ := rfl
theorem b_J0_length_8abf5_3_0 : qG L xs d CJ0_length_8abf5 0 [(2, 2003)] [] (qS v) = qB (qE L xs d nJ0_coder_7d493 [(2, 2003)] (qS v)) (fun r σ => qG L xs d CJ0_length_8abf5 9 [(2, 2003)] (pm_psh r [(0, 1)]) σ) := (qG_stk 4 _ _ _ _).trans (qG_call (as := [(2, 2003)]) (rest := [(0, 1)]) rfl rfl rfl)
theorem b_J0_length_8abf5_3_9 (y0 : Int) (y1 : Int) : qG L xs d CJ0_length_8abf5 9 [(2, 2003)] [(0, y1), (0, y0)] (qS v) = some (some (0, pm_shr y0 y1), qS v) := qG_stk 2 _ _ _ _
theorem e_J0_indexOf_0f7a4_3 (x1 : Int) (σ : pm_S) : qE L xs (d + 1) nJ0_indexOf_0f7a4 [(2, 2003), (0, x1)] σ = qG L xs d CJ0_indexOf_0f7a4 0 [(2, 2003), (0, x1)] [] σ := rfl
theorem b_J0_indexOf_0f7a4_3_0 (x1 : Int) : qG L xs d CJ0_indexOf_0f7a4 0 [(2, 2003), (0, x1)] [] (qS v) = qB (qE L xs d nJ0_indexOf_7cf53 [(2, 2003), (0, x1), (0, 0)] (qS v)) (fun r σ => qG L xs d CJ0_indexOf_0f7a4 6 [(2, 2003), (0, x1)] (pm_psh r []) σ) := (qG_stk 3 _ _ _ _).trans (qG_call (as := [(2, 2003), (0, x1), (0, 0)]) (rest := []) rfl rfl rfl)
theorem b_J0_indexOf_0f7a4_3_6 (x1 : Int) (y0 : Int) : qG L xs d CJ0_indexOf_0f7a4 6 [(2, 2003), (0, x1)] [(0, y0)] (qS v) = some (some (0, y0), qS v) := qG_stk 1 _ _ _ _
theorem e_J0_indexOf_7cf53_3 (x1 : Int) (x2 : Int) (σ : pm_S) : qE L xs (d + 1) nJ0_indexOf_7cf53 [(2, 2003), (0, x1), (0, x2)] σ = qG L xs d CJ0_indexOf_7cf53 0 [(2, 2003), (0, x1), (0, x2)] [] σ := rfl
theorem b_J0_indexOf_7cf53_3_0 (x1 : Int) (x2 : Int) : qG L xs d CJ0_indexOf_7cf53 0 [(2, 2003), (0, x1), (0, x2)] [] (qS v) = qB (qE L xs d nJ0_isLatin1_aae02 [(2, 2003)] (qS v)) (fun r σ => qG L xs d CJ0_indexOf_7cf53 4 [(2, 2003), (0, x1), (0, x2)] (pm_psh r []) σ) := (qG_stk 1 _ _ _ _).trans (qG_call (as := [(2, 2003)]) (rest := []) rfl rfl rfl)
theorem b_J0_indexOf_7cf53_3_4 (x1 : Int) (x2 : Int) (y0 : Int) : qG L xs d CJ0_indexOf_7cf53 4 [(2, 2003), (0, x1), (0, x2)] [(0, y0)] (qS v) = if y0 = 0 then qG L xs d CJ0_indexOf_7cf53 23 [(2, 2003), (0, x1), (0, x2)] [] (qS v) else qG L xs d CJ0_indexOf_7cf53 7 [(2, 2003), (0, x1), (0, x2)] [] (qS v) := (qG_stk 1 _ _ _ _).trans qG_if
theorem b_J0_indexOf_7cf53_3_7 (x1 : Int) (x2 : Int) : qG L xs d CJ0_indexOf_7cf53 7 [(2, 2003), (0, x1), (0, x2)] [] (qS v) = qB (qE L xs d nJ0_length_8abf5 [(2, 2003)] (qS v)) (fun r σ => qG L xs d CJ0_indexOf_7cf53 17 [(2, 2003), (0, x1), (0, x2)] (pm_psh r [(0, x2), (0, x1), (2, 1013)]) σ) := (qG_stk 5 _ _ _ _).trans (qG_call (as := [(2, 2003)]) (rest := [(0, x2), (0, x1), (2, 1013)]) rfl rfl rfl)
theorem b_J0_indexOf_7cf53_3_17 (x1 : Int) (x2 : Int) (y1 : Int) (y2 : Int) (y3 : Int) : qG L xs d CJ0_indexOf_7cf53 17 [(2, 2003), (0, x1), (0, x2)] [(0, y3), (0, y2), (0, y1), (2, 1013)] (qS v) = qB (qE L xs d nJ1_indexOf_4cfef [(2, 1013), (0, y1), (0, y2), (0, y3)] (qS v)) (fun r σ => qG L xs d CJ0_indexOf_7cf53 20 [(2, 2003), (0, x1), (0, x2)] (pm_psh r []) σ) := qG_call (as := [(2, 1013), (0, y1), (0, y2), (0, y3)]) (rest := []) rfl rfl rfl
theorem b_J0_indexOf_7cf53_3_20 (x1 : Int) (x2 : Int) (y0 : Int) : qG L xs d CJ0_indexOf_7cf53 20 [(2, 2003), (0, x1), (0, x2)] [(0, y0)] (qS v) = qG L xs d CJ0_indexOf_7cf53 36 [(2, 2003), (0, x1), (0, x2)] [(0, y0)] (qS v) := qG_stk 1 _ _ _ _
theorem b_J0_indexOf_7cf53_3_36 (x1 : Int) (x2 : Int) (y0 : Int) : qG L xs d CJ0_indexOf_7cf53 36 [(2, 2003), (0, x1), (0, x2)] [(0, y0)] (qS v) = some (some (0, y0), qS v) := qG_stk 1 _ _ _ _
theorem e_J1_indexOf_4cfef_3 (x1 : Int) (x2 : Int) (x3 : Int) (σ : pm_S) : qE L xs (d + 1) nJ1_indexOf_4cfef [(2, 1013), (0, x1), (0, x2), (0, x3)] σ = qG L xs d CJ1_indexOf_4cfef 0 [(2, 1013), (0, x1), (0, x2), (0, x3)] [] σ := rfl
theorem b_J1_indexOf_4cfef_3_0 (x1 : Int) (x2 : Int) (x3 : Int) : qG L xs d CJ1_indexOf_4cfef 0 [(2, 1013), (0, x1), (0, x2), (0, x3)] [] (qS v) = qB (qE L xs d nJ1_canEncode_9a6ad [(0, x1)] (qS v)) (fun r σ => qG L xs d CJ1_indexOf_4cfef 4 [(2, 1013), (0, x1), (0, x2), (0, x3)] (pm_psh r []) σ) := (qG_stk 1 _ _ _ _).trans (qG_call (as := [(0, x1)]) (rest := []) rfl rfl rfl)
theorem b_J1_indexOf_4cfef_3_4 (x1 : Int) (x2 : Int) (x3 : Int) (y0 : Int) : qG L xs d CJ1_indexOf_4cfef 4 [(2, 1013), (0, x1), (0, x2), (0, x3)] [(0, y0)] (qS v) = if y0 = 0 then qG L xs d CJ1_indexOf_4cfef 7 [(2, 1013), (0, x1), (0, x2), (0, x3)] [] (qS v) else qG L xs d CJ1_indexOf_4cfef 9 [(2, 1013), (0, x1), (0, x2), (0, x3)] [] (qS v) := (qG_stk 1 _ _ _ _).trans qG_if
theorem b_J1_indexOf_4cfef_3_9 (x1 : Int) (x2 : Int) (x3 : Int) : qG L xs d CJ1_indexOf_4cfef 9 [(2, 1013), (0, x1), (0, x2), (0, x3)] [] (qS v) = if pm_max x2 0 < pm_min x3 1 then qG L xs d CJ1_indexOf_4cfef 29 [(2, 1013), (0, x1), (0, pm_max x2 0), (0, pm_min x3 1)] [] (qS v) else qG L xs d CJ1_indexOf_4cfef 27 [(2, 1013), (0, x1), (0, pm_max x2 0), (0, pm_min x3 1)] [] (qS v) := (qG_stk 12 _ _ _ _).trans qG_if
theorem b_J1_indexOf_4cfef_3_29 (x1 : Int) (x2 : Int) (x3 : Int) : qG L xs d CJ1_indexOf_4cfef 29 [(2, 1013), (0, x1), (0, x2), (0, x3)] [] (qS v) = qB (qE L xs d nJ1_indexOfChar_4cfef [(2, 1013), (0, x1), (0, x2), (0, x3)] (qS v)) (fun r σ => qG L xs d CJ1_indexOf_4cfef 36 [(2, 1013), (0, x1), (0, x2), (0, x3)] (pm_psh r []) σ) := (qG_stk 4 _ _ _ _).trans (qG_call (as := [(2, 1013), (0, x1), (0, x2), (0, x3)]) (rest := []) rfl rfl rfl)
theorem b_J1_indexOf_4cfef_3_36 (x1 : Int) (x2 : Int) (x3 : Int) (y0 : Int) : qG L xs d CJ1_indexOf_4cfef 36 [(2, 1013), (0, x1), (0, x2), (0, x3)] [(0, y0)] (qS v) = some (some (0, y0), qS v) := qG_stk 1 _ _ _ _
theorem e_J1_indexOfChar_4cfef_3 (x1 : Int) (x2 : Int) (x3 : Int) (σ : pm_S) : qE L xs (d + 1) nJ1_indexOfChar_4cfef [(2, 1013), (0, x1), (0, x2), (0, x3)] σ = qG L xs d CJ1_indexOfChar_4cfef 0 [(2, 1013), (0, x1), (0, x2), (0, x3), (9, 0), (9, 0)] [] σ := rfl
theorem b_J1_indexOfChar_4cfef_3_0 (x1 : Int) (x2 : Int) (x3 : Int) : qG L xs d CJ1_indexOfChar_4cfef 0 [(2, 1013), (0, x1), (0, x2), (0, x3), (9, 0), (9, 0)] [] (qS v) = qG L xs d CJ1_indexOfChar_4cfef 7 [(2, 1013), (0, x1), (0, x2), (0, x3), (0, w8 x1), (0, x2)] [] (qS v) := qG_stk 5 _ _ _ _
theorem b_J1_indexOfChar_4cfef_3_7 (x1 : Int) (x2 : Int) (x3 : Int) (x4 : Int) (x5 : Int) : qG L xs d CJ1_indexOfChar_4cfef 7 [(2, 1013), (0, x1), (0, x2), (0, x3), (0, x4), (0, x5)] [] (qS v) = if x5 < x3 then qG L xs d CJ1_indexOfChar_4cfef 13 [(2, 1013), (0, x1), (0, x2), (0, x3), (0, x4), (0, x5)] [] (qS v) else qG L xs d CJ1_indexOfChar_4cfef 31 [(2, 1013), (0, x1), (0, x2), (0, x3), (0, x4), (0, x5)] [] (qS v) := (qG_stk 3 _ _ _ _).trans qG_if
theorem b_J1_indexOfChar_4cfef_3_13 (x1 : Int) (x2 : Int) (x3 : Int) (x4 : Int) (x5 : Int) : qG L xs d CJ1_indexOfChar_4cfef 13 [(2, 1013), (0, x1), (0, x2), (0, x3), (0, x4), (0, x5)] [] (qS v) = if 0 ≤ x5 ∧ x5 < 1 then qG L xs d CJ1_indexOfChar_4cfef 17 [(2, 1013), (0, x1), (0, x2), (0, x3), (0, x4), (0, x5)] [(0, pm_lof [124] (Int.toNat x5))] (qS v) else none := (qG_stk 2 _ _ _ _).trans (qG_ald (n := 1) (t := 0) (f := pm_lof [124]) rfl rfl)
theorem b_J1_indexOfChar_4cfef_3_17 (x1 : Int) (x2 : Int) (x3 : Int) (x4 : Int) (x5 : Int) (y0 : Int) : qG L xs d CJ1_indexOfChar_4cfef 17 [(2, 1013), (0, x1), (0, x2), (0, x3), (0, x4), (0, x5)] [(0, y0)] (qS v) = if y0 = x4 then qG L xs d CJ1_indexOfChar_4cfef 22 [(2, 1013), (0, x1), (0, x2), (0, x3), (0, x4), (0, x5)] [] (qS v) else qG L xs d CJ1_indexOfChar_4cfef 25 [(2, 1013), (0, x1), (0, x2), (0, x3), (0, x4), (0, x5)] [] (qS v) := (qG_stk 2 _ _ _ _).trans qG_if
theorem b_J1_indexOfChar_4cfef_3_22 (x1 : Int) (x2 : Int) (x3 : Int) (x4 : Int) (x5 : Int) : qG L xs d CJ1_indexOfChar_4cfef 22 [(2, 1013), (0, x1), (0, x2), (0, x3), (0, x4), (0, x5)] [] (qS v) = some (some (0, x5), qS v) := qG_stk 2 _ _ _ _
theorem b_J1_indexOfChar_4cfef_3_25 (x1 : Int) (x2 : Int) (x3 : Int) (x4 : Int) (x5 : Int) : qG L xs d CJ1_indexOfChar_4cfef 25 [(2, 1013), (0, x1), (0, x2), (0, x3), (0, x4), (0, x5)] [] (qS v) = qG L xs d CJ1_indexOfChar_4cfef 7 [(2, 1013), (0, x1), (0, x2), (0, x3), (0, x4), (0, w32 (x5 + 1))] [] (qS v) := qG_stk 2 _ _ _ _
theorem b_J1_indexOfChar_4cfef_3_31 (x1 : Int) (x2 : Int) (x3 : Int) (x4 : Int) (x5 : Int) : qG L xs d CJ1_indexOfChar_4cfef 31 [(2, 1013), (0, x1), (0, x2), (0, x3), (0, x4), (0, x5)] [] (qS v) = some (some (0, (-1)), qS v) := qG_stk 2 _ _ _ _
theorem e_J0_coder_7d493_4 (σ : pm_S) : qE L xs (d + 1) nJ0_coder_7d493 [(2, 2004)] σ = qG L xs d CJ0_coder_7d493 0 [(2, 2004)] [] σ := rfl
theorem b_J0_coder_7d493_4_0 : qG L xs d CJ0_coder_7d493 0 [(2, 2004)] [] (qS v) = qG L xs d CJ0_coder_7d493 6 [(2, 2004)] [] (qS v) := qG_stk 2 _ _ _ _
theorem b_J0_coder_7d493_4_6 : qG L xs d CJ0_coder_7d493 6 [(2, 2004)] [] (qS v) = qG L xs d CJ0_coder_7d493 14 [(2, 2004)] [(0, 0)] (qS v) := qG_stk 3 _ _ _ _
theorem e_J0_isLatin1_aae02_4 (σ : pm_S) : qE L xs (d + 1) nJ0_isLatin1_aae02 [(2, 2004)] σ = qG L xs d CJ0_isLatin1_aae02 0 [(2, 2004)] [] σ := rfl
theorem b_J0_isLatin1_aae02_4_0 : qG L xs d CJ0_isLatin1_aae02 0 [(2, 2004)] [] (qS v) = qG L xs d CJ0_isLatin1_aae02 6 [(2, 2004)] [] (qS v) := qG_stk 2 _ _ _ _
theorem b_J0_isLatin1_aae02_4_6 : qG L xs d CJ0_isLatin1_aae02 6 [(2, 2004)] [] (qS v) = qG L xs d CJ0_isLatin1_aae02 13 [(2, 2004)] [] (qS v) := qG_stk 3 _ _ _ _
theorem b_J0_isLatin1_aae02_4_13 : qG L xs d CJ0_isLatin1_aae02 13 [(2, 2004)] [] (qS v) = qG L xs d CJ0_isLatin1_aae02 18 [(2, 2004)] [(0, 1)] (qS v) := qG_stk 2 _ _ _ _
theorem b_J0_isLatin1_aae02_4_18 (y0 : Int) : qG L xs d CJ0_isLatin1_aae02 18 [(2, 2004)] [(0, y0)] (qS v) = if y0 = 0 ∨ y0 = 1 then some (some (0, y0), qS v) else none := qG_retb _ _ rfl
theorem e_J0_length_8abf5_4 (σ : pm_S) : qE L xs (d + 1) nJ0_length_8abf5 [(2, 2004)] σ = qG L xs d CJ0_length_8abf5 0 [(2, 2004)] [] σ := rfl
theorem b_J0_length_8abf5_4_0 : qG L xs d CJ0_length_8abf5 0 [(2, 2004)] [] (qS v) = qB (qE L xs d nJ0_coder_7d493 [(2, 2004)] (qS v)) (fun r σ => qG L xs d CJ0_length_8abf5 9 [(2, 2004)] (pm_psh r [(0, 1)]) σ) := (qG_stk 4 _ _ _ _).trans (qG_call (as := [(2, 2004)]) (rest := [(0, 1)]) rfl rfl rfl)
theorem b_J0_length_8abf5_4_9 (y0 : Int) (y1 : Int) : qG L xs d CJ0_length_8abf5 9 [(2, 2004)] [(0, y1), (0, y0)] (qS v) = some (some (0, pm_shr y0 y1), qS v) := qG_stk 2 _ _ _ _
theorem e_J0_indexOf_0f7a4_4 (x1 : Int) (σ : pm_S) : qE L xs (d + 1) nJ0_indexOf_0f7a4 [(2, 2004), (0, x1)] σ = qG L xs d CJ0_indexOf_0f7a4 0 [(2, 2004), (0, x1)] [] σ := rfl
theorem b_J0_indexOf_0f7a4_4_0 (x1 : Int) : qG L xs d CJ0_indexOf_0f7a4 0 [(2, 2004), (0, x1)] [] (qS v) = qB (qE L xs d nJ0_indexOf_7cf53 [(2, 2004), (0, x1), (0, 0)] (qS v)) (fun r σ => qG L xs d CJ0_indexOf_0f7a4 6 [(2, 2004), (0, x1)] (pm_psh r []) σ) := (qG_stk 3 _ _ _ _).trans (qG_call (as := [(2, 2004), (0, x1), (0, 0)]) (rest := []) rfl rfl rfl)
theorem b_J0_indexOf_0f7a4_4_6 (x1 : Int) (y0 : Int) : qG L xs d CJ0_indexOf_0f7a4 6 [(2, 2004), (0, x1)] [(0, y0)] (qS v) = some (some (0, y0), qS v) := qG_stk 1 _ _ _ _
theorem e_J0_indexOf_7cf53_4 (x1 : Int) (x2 : Int) (σ : pm_S) : qE L xs (d + 1) nJ0_indexOf_7cf53 [(2, 2004), (0, x1), (0, x2)] σ = qG L xs d CJ0_indexOf_7cf53 0 [(2, 2004), (0, x1), (0, x2)] [] σ := rfl
theorem b_J0_indexOf_7cf53_4_0 (x1 : Int) (x2 : Int) : qG L xs d CJ0_indexOf_7cf53 0 [(2, 2004), (0, x1), (0, x2)] [] (qS v) = qB (qE L xs d nJ0_isLatin1_aae02 [(2, 2004)] (qS v)) (fun r σ => qG L xs d CJ0_indexOf_7cf53 4 [(2, 2004), (0, x1), (0, x2)] (pm_psh r []) σ) := (qG_stk 1 _ _ _ _).trans (qG_call (as := [(2, 2004)]) (rest := []) rfl rfl rfl)
theorem b_J0_indexOf_7cf53_4_4 (x1 : Int) (x2 : Int) (y0 : Int) : qG L xs d CJ0_indexOf_7cf53 4 [(2, 2004), (0, x1), (0, x2)] [(0, y0)] (qS v) = if y0 = 0 then qG L xs d CJ0_indexOf_7cf53 23 [(2, 2004), (0, x1), (0, x2)] [] (qS v) else qG L xs d CJ0_indexOf_7cf53 7 [(2, 2004), (0, x1), (0, x2)] [] (qS v) := (qG_stk 1 _ _ _ _).trans qG_if
theorem b_J0_indexOf_7cf53_4_7 (x1 : Int) (x2 : Int) : qG L xs d CJ0_indexOf_7cf53 7 [(2, 2004), (0, x1), (0, x2)] [] (qS v) = qB (qE L xs d nJ0_length_8abf5 [(2, 2004)] (qS v)) (fun r σ => qG L xs d CJ0_indexOf_7cf53 17 [(2, 2004), (0, x1), (0, x2)] (pm_psh r [(0, x2), (0, x1), (2, 1014)]) σ) := (qG_stk 5 _ _ _ _).trans (qG_call (as := [(2, 2004)]) (rest := [(0, x2), (0, x1), (2, 1014)]) rfl rfl rfl)
theorem b_J0_indexOf_7cf53_4_17 (x1 : Int) (x2 : Int) (y1 : Int) (y2 : Int) (y3 : Int) : qG L xs d CJ0_indexOf_7cf53 17 [(2, 2004), (0, x1), (0, x2)] [(0, y3), (0, y2), (0, y1), (2, 1014)] (qS v) = qB (qE L xs d nJ1_indexOf_4cfef [(2, 1014), (0, y1), (0, y2), (0, y3)] (qS v)) (fun r σ => qG L xs d CJ0_indexOf_7cf53 20 [(2, 2004), (0, x1), (0, x2)] (pm_psh r []) σ) := qG_call (as := [(2, 1014), (0, y1), (0, y2), (0, y3)]) (rest := []) rfl rfl rfl
theorem b_J0_indexOf_7cf53_4_20 (x1 : Int) (x2 : Int) (y0 : Int) : qG L xs d CJ0_indexOf_7cf53 20 [(2, 2004), (0, x1), (0, x2)] [(0, y0)] (qS v) = qG L xs d CJ0_indexOf_7cf53 36 [(2, 2004), (0, x1), (0, x2)] [(0, y0)] (qS v) := qG_stk 1 _ _ _ _
theorem b_J0_indexOf_7cf53_4_36 (x1 : Int) (x2 : Int) (y0 : Int) : qG L xs d CJ0_indexOf_7cf53 36 [(2, 2004), (0, x1), (0, x2)] [(0, y0)] (qS v) = some (some (0, y0), qS v) := qG_stk 1 _ _ _ _
theorem e_J1_indexOf_4cfef_4 (x1 : Int) (x2 : Int) (x3 : Int) (σ : pm_S) : qE L xs (d + 1) nJ1_indexOf_4cfef [(2, 1014), (0, x1), (0, x2), (0, x3)] σ = qG L xs d CJ1_indexOf_4cfef 0 [(2, 1014), (0, x1), (0, x2), (0, x3)] [] σ := rfl
theorem b_J1_indexOf_4cfef_4_0 (x1 : Int) (x2 : Int) (x3 : Int) : qG L xs d CJ1_indexOf_4cfef 0 [(2, 1014), (0, x1), (0, x2), (0, x3)] [] (qS v) = qB (qE L xs d nJ1_canEncode_9a6ad [(0, x1)] (qS v)) (fun r σ => qG L xs d CJ1_indexOf_4cfef 4 [(2, 1014), (0, x1), (0, x2), (0, x3)] (pm_psh r []) σ) := (qG_stk 1 _ _ _ _).trans (qG_call (as := [(0, x1)]) (rest := []) rfl rfl rfl)
theorem b_J1_indexOf_4cfef_4_4 (x1 : Int) (x2 : Int) (x3 : Int) (y0 : Int) : qG L xs d CJ1_indexOf_4cfef 4 [(2, 1014), (0, x1), (0, x2), (0, x3)] [(0, y0)] (qS v) = if y0 = 0 then qG L xs d CJ1_indexOf_4cfef 7 [(2, 1014), (0, x1), (0, x2), (0, x3)] [] (qS v) else qG L xs d CJ1_indexOf_4cfef 9 [(2, 1014), (0, x1), (0, x2), (0, x3)] [] (qS v) := (qG_stk 1 _ _ _ _).trans qG_if
theorem b_J1_indexOf_4cfef_4_9 (x1 : Int) (x2 : Int) (x3 : Int) : qG L xs d CJ1_indexOf_4cfef 9 [(2, 1014), (0, x1), (0, x2), (0, x3)] [] (qS v) = if pm_max x2 0 < pm_min x3 1 then qG L xs d CJ1_indexOf_4cfef 29 [(2, 1014), (0, x1), (0, pm_max x2 0), (0, pm_min x3 1)] [] (qS v) else qG L xs d CJ1_indexOf_4cfef 27 [(2, 1014), (0, x1), (0, pm_max x2 0), (0, pm_min x3 1)] [] (qS v) := (qG_stk 12 _ _ _ _).trans qG_if
theorem b_J1_indexOf_4cfef_4_29 (x1 : Int) (x2 : Int) (x3 : Int) : qG L xs d CJ1_indexOf_4cfef 29 [(2, 1014), (0, x1), (0, x2), (0, x3)] [] (qS v) = qB (qE L xs d nJ1_indexOfChar_4cfef [(2, 1014), (0, x1), (0, x2), (0, x3)] (qS v)) (fun r σ => qG L xs d CJ1_indexOf_4cfef 36 [(2, 1014), (0, x1), (0, x2), (0, x3)] (pm_psh r []) σ) := (qG_stk 4 _ _ _ _).trans (qG_call (as := [(2, 1014), (0, x1), (0, x2), (0, x3)]) (rest := []) rfl rfl rfl)
theorem b_J1_indexOf_4cfef_4_36 (x1 : Int) (x2 : Int) (x3 : Int) (y0 : Int) : qG L xs d CJ1_indexOf_4cfef 36 [(2, 1014), (0, x1), (0, x2), (0, x3)] [(0, y0)] (qS v) = some (some (0, y0), qS v) := qG_stk 1 _ _ _ _
theorem e_J1_indexOfChar_4cfef_4 (x1 : Int) (x2 : Int) (x3 : Int) (σ : pm_S) : qE L xs (d + 1) nJ1_indexOfChar_4cfef [(2, 1014), (0, x1), (0, x2), (0, x3)] σ = qG L xs d CJ1_indexOfChar_4cfef 0 [(2, 1014), (0, x1), (0, x2), (0, x3), (9, 0), (9, 0)] [] σ := rfl
theorem b_J1_indexOfChar_4cfef_4_0 (x1 : Int) (x2 : Int) (x3 : Int) : qG L xs d CJ1_indexOfChar_4cfef 0 [(2, 1014), (0, x1), (0, x2), (0, x3), (9, 0), (9, 0)] [] (qS v) = qG L xs d CJ1_indexOfChar_4cfef 7 [(2, 1014), (0, x1), (0, x2), (0, x3), (0, w8 x1), (0, x2)] [] (qS v) := qG_stk 5 _ _ _ _
theorem b_J1_indexOfChar_4cfef_4_7 (x1 : Int) (x2 : Int) (x3 : Int) (x4 : Int) (x5 : Int) : qG L xs d CJ1_indexOfChar_4cfef 7 [(2, 1014), (0, x1), (0, x2), (0, x3), (0, x4), (0, x5)] [] (qS v) = if x5 < x3 then qG L xs d CJ1_indexOfChar_4cfef 13 [(2, 1014), (0, x1), (0, x2), (0, x3), (0, x4), (0, x5)] [] (qS v) else qG L xs d CJ1_indexOfChar_4cfef 31 [(2, 1014), (0, x1), (0, x2), (0, x3), (0, x4), (0, x5)] [] (qS v) := (qG_stk 3 _ _ _ _).trans qG_if
theorem b_J1_indexOfChar_4cfef_4_13 (x1 : Int) (x2 : Int) (x3 : Int) (x4 : Int) (x5 : Int) : qG L xs d CJ1_indexOfChar_4cfef 13 [(2, 1014), (0, x1), (0, x2), (0, x3), (0, x4), (0, x5)] [] (qS v) = if 0 ≤ x5 ∧ x5 < 1 then qG L xs d CJ1_indexOfChar_4cfef 17 [(2, 1014), (0, x1), (0, x2), (0, x3), (0, x4), (0, x5)] [(0, pm_lof [38] (Int.toNat x5))] (qS v) else none := (qG_stk 2 _ _ _ _).trans (qG_ald (n := 1) (t := 0) (f := pm_lof [38]) rfl rfl)
theorem b_J1_indexOfChar_4cfef_4_17 (x1 : Int) (x2 : Int) (x3 : Int) (x4 : Int) (x5 : Int) (y0 : Int) : qG L xs d CJ1_indexOfChar_4cfef 17 [(2, 1014), (0, x1), (0, x2), (0, x3), (0, x4), (0, x5)] [(0, y0)] (qS v) = if y0 = x4 then qG L xs d CJ1_indexOfChar_4cfef 22 [(2, 1014), (0, x1), (0, x2), (0, x3), (0, x4), (0, x5)] [] (qS v) else qG L xs d CJ1_indexOfChar_4cfef 25 [(2, 1014), (0, x1), (0, x2), (0, x3), (0, x4), (0, x5)] [] (qS v) := (qG_stk 2 _ _ _ _).trans qG_if
theorem b_J1_indexOfChar_4cfef_4_22 (x1 : Int) (x2 : Int) (x3 : Int) (x4 : Int) (x5 : Int) : qG L xs d CJ1_indexOfChar_4cfef 22 [(2, 1014), (0, x1), (0, x2), (0, x3), (0, x4), (0, x5)] [] (qS v) = some (some (0, x5), qS v) := qG_stk 2 _ _ _ _
theorem b_J1_indexOfChar_4cfef_4_25 (x1 : Int) (x2 : Int) (x3 : Int) (x4 : Int) (x5 : Int) : qG L xs d CJ1_indexOfChar_4cfef 25 [(2, 1014), (0, x1), (0, x2), (0, x3), (0, x4), (0, x5)] [] (qS v) = qG L xs d CJ1_indexOfChar_4cfef 7 [(2, 1014), (0, x1), (0, x2), (0, x3), (0, x4), (0, w32 (x5 + 1))] [] (qS v) := qG_stk 2 _ _ _ _
theorem b_J1_indexOfChar_4cfef_4_31 (x1 : Int) (x2 : Int) (x3 : Int) (x4 : Int) (x5 : Int) : qG L xs d CJ1_indexOfChar_4cfef 31 [(2, 1014), (0, x1), (0, x2), (0, x3), (0, x4), (0, x5)] [] (qS v) = some (some (0, (-1)), qS v) := qG_stk 2 _ _ _ _
theorem e_J0_coder_7d493_5 (σ : pm_S) : qE L xs (d + 1) nJ0_coder_7d493 [(2, 2005)] σ = qG L xs d CJ0_coder_7d493 0 [(2, 2005)] [] σ := rfl
theorem b_J0_coder_7d493_5_0 : qG L xs d CJ0_coder_7d493 0 [(2, 2005)] [] (qS v) = qG L xs d CJ0_coder_7d493 6 [(2, 2005)] [] (qS v) := qG_stk 2 _ _ _ _
theorem b_J0_coder_7d493_5_6 : qG L xs d CJ0_coder_7d493 6 [(2, 2005)] [] (qS v) = qG L xs d CJ0_coder_7d493 14 [(2, 2005)] [(0, 0)] (qS v) := qG_stk 3 _ _ _ _
theorem e_J0_isLatin1_aae02_5 (σ : pm_S) : qE L xs (d + 1) nJ0_isLatin1_aae02 [(2, 2005)] σ = qG L xs d CJ0_isLatin1_aae02 0 [(2, 2005)] [] σ := rfl
theorem b_J0_isLatin1_aae02_5_0 : qG L xs d CJ0_isLatin1_aae02 0 [(2, 2005)] [] (qS v) = qG L xs d CJ0_isLatin1_aae02 6 [(2, 2005)] [] (qS v) := qG_stk 2 _ _ _ _
theorem b_J0_isLatin1_aae02_5_6 : qG L xs d CJ0_isLatin1_aae02 6 [(2, 2005)] [] (qS v) = qG L xs d CJ0_isLatin1_aae02 13 [(2, 2005)] [] (qS v) := qG_stk 3 _ _ _ _
theorem b_J0_isLatin1_aae02_5_13 : qG L xs d CJ0_isLatin1_aae02 13 [(2, 2005)] [] (qS v) = qG L xs d CJ0_isLatin1_aae02 18 [(2, 2005)] [(0, 1)] (qS v) := qG_stk 2 _ _ _ _
theorem b_J0_isLatin1_aae02_5_18 (y0 : Int) : qG L xs d CJ0_isLatin1_aae02 18 [(2, 2005)] [(0, y0)] (qS v) = if y0 = 0 ∨ y0 = 1 then some (some (0, y0), qS v) else none := qG_retb _ _ rfl
theorem e_J0_length_8abf5_5 (σ : pm_S) : qE L xs (d + 1) nJ0_length_8abf5 [(2, 2005)] σ = qG L xs d CJ0_length_8abf5 0 [(2, 2005)] [] σ := rfl
theorem b_J0_length_8abf5_5_0 : qG L xs d CJ0_length_8abf5 0 [(2, 2005)] [] (qS v) = qB (qE L xs d nJ0_coder_7d493 [(2, 2005)] (qS v)) (fun r σ => qG L xs d CJ0_length_8abf5 9 [(2, 2005)] (pm_psh r [(0, 3)]) σ) := (qG_stk 4 _ _ _ _).trans (qG_call (as := [(2, 2005)]) (rest := [(0, 3)]) rfl rfl rfl)
theorem b_J0_length_8abf5_5_9 (y0 : Int) (y1 : Int) : qG L xs d CJ0_length_8abf5 9 [(2, 2005)] [(0, y1), (0, y0)] (qS v) = some (some (0, pm_shr y0 y1), qS v) := qG_stk 2 _ _ _ _
theorem e_J0_indexOf_0f7a4_5 (x1 : Int) (σ : pm_S) : qE L xs (d + 1) nJ0_indexOf_0f7a4 [(2, 2005), (0, x1)] σ = qG L xs d CJ0_indexOf_0f7a4 0 [(2, 2005), (0, x1)] [] σ := rfl
theorem b_J0_indexOf_0f7a4_5_0 (x1 : Int) : qG L xs d CJ0_indexOf_0f7a4 0 [(2, 2005), (0, x1)] [] (qS v) = qB (qE L xs d nJ0_indexOf_7cf53 [(2, 2005), (0, x1), (0, 0)] (qS v)) (fun r σ => qG L xs d CJ0_indexOf_0f7a4 6 [(2, 2005), (0, x1)] (pm_psh r []) σ) := (qG_stk 3 _ _ _ _).trans (qG_call (as := [(2, 2005), (0, x1), (0, 0)]) (rest := []) rfl rfl rfl)
theorem b_J0_indexOf_0f7a4_5_6 (x1 : Int) (y0 : Int) : qG L xs d CJ0_indexOf_0f7a4 6 [(2, 2005), (0, x1)] [(0, y0)] (qS v) = some (some (0, y0), qS v) := qG_stk 1 _ _ _ _
theorem e_J0_indexOf_7cf53_5 (x1 : Int) (x2 : Int) (σ : pm_S) : qE L xs (d + 1) nJ0_indexOf_7cf53 [(2, 2005), (0, x1), (0, x2)] σ = qG L xs d CJ0_indexOf_7cf53 0 [(2, 2005), (0, x1), (0, x2)] [] σ := rfl
theorem b_J0_indexOf_7cf53_5_0 (x1 : Int) (x2 : Int) : qG L xs d CJ0_indexOf_7cf53 0 [(2, 2005), (0, x1), (0, x2)] [] (qS v) = qB (qE L xs d nJ0_isLatin1_aae02 [(2, 2005)] (qS v)) (fun r σ => qG L xs d CJ0_indexOf_7cf53 4 [(2, 2005), (0, x1), (0, x2)] (pm_psh r []) σ) := (qG_stk 1 _ _ _ _).trans (qG_call (as := [(2, 2005)]) (rest := []) rfl rfl rfl)
theorem b_J0_indexOf_7cf53_5_4 (x1 : Int) (x2 : Int) (y0 : Int) : qG L xs d CJ0_indexOf_7cf53 4 [(2, 2005), (0, x1), (0, x2)] [(0, y0)] (qS v) = if y0 = 0 then qG L xs d CJ0_indexOf_7cf53 23 [(2, 2005), (0, x1), (0, x2)] [] (qS v) else qG L xs d CJ0_indexOf_7cf53 7 [(2, 2005), (0, x1), (0, x2)] [] (qS v) := (qG_stk 1 _ _ _ _).trans qG_if
theorem b_J0_indexOf_7cf53_5_7 (x1 : Int) (x2 : Int) : qG L xs d CJ0_indexOf_7cf53 7 [(2, 2005), (0, x1), (0, x2)] [] (qS v) = qB (qE L xs d nJ0_length_8abf5 [(2, 2005)] (qS v)) (fun r σ => qG L xs d CJ0_indexOf_7cf53 17 [(2, 2005), (0, x1), (0, x2)] (pm_psh r [(0, x2), (0, x1), (2, 1015)]) σ) := (qG_stk 5 _ _ _ _).trans (qG_call (as := [(2, 2005)]) (rest := [(0, x2), (0, x1), (2, 1015)]) rfl rfl rfl)
theorem b_J0_indexOf_7cf53_5_17 (x1 : Int) (x2 : Int) (y1 : Int) (y2 : Int) (y3 : Int) : qG L xs d CJ0_indexOf_7cf53 17 [(2, 2005), (0, x1), (0, x2)] [(0, y3), (0, y2), (0, y1), (2, 1015)] (qS v) = qB (qE L xs d nJ1_indexOf_4cfef [(2, 1015), (0, y1), (0, y2), (0, y3)] (qS v)) (fun r σ => qG L xs d CJ0_indexOf_7cf53 20 [(2, 2005), (0, x1), (0, x2)] (pm_psh r []) σ) := qG_call (as := [(2, 1015), (0, y1), (0, y2), (0, y3)]) (rest := []) rfl rfl rfl
theorem b_J0_indexOf_7cf53_5_20 (x1 : Int) (x2 : Int) (y0 : Int) : qG L xs d CJ0_indexOf_7cf53 20 [(2, 2005), (0, x1), (0, x2)] [(0, y0)] (qS v) = qG L xs d CJ0_indexOf_7cf53 36 [(2, 2005), (0, x1), (0, x2)] [(0, y0)] (qS v) := qG_stk 1 _ _ _ _
theorem b_J0_indexOf_7cf53_5_36 (x1 : Int) (x2 : Int) (y0 : Int) : qG L xs d CJ0_indexOf_7cf53 36 [(2, 2005), (0, x1), (0, x2)] [(0, y0)] (qS v) = some (some (0, y0), qS v) := qG_stk 1 _ _ _ _
theorem e_J1_indexOf_4cfef_5 (x1 : Int) (x2 : Int) (x3 : Int) (σ : pm_S) : qE L xs (d + 1) nJ1_indexOf_4cfef [(2, 1015), (0, x1), (0, x2), (0, x3)] σ = qG L xs d CJ1_indexOf_4cfef 0 [(2, 1015), (0, x1), (0, x2), (0, x3)] [] σ := rfl
theorem b_J1_indexOf_4cfef_5_0 (x1 : Int) (x2 : Int) (x3 : Int) : qG L xs d CJ1_indexOf_4cfef 0 [(2, 1015), (0, x1), (0, x2), (0, x3)] [] (qS v) = qB (qE L xs d nJ1_canEncode_9a6ad [(0, x1)] (qS v)) (fun r σ => qG L xs d CJ1_indexOf_4cfef 4 [(2, 1015), (0, x1), (0, x2), (0, x3)] (pm_psh r []) σ) := (qG_stk 1 _ _ _ _).trans (qG_call (as := [(0, x1)]) (rest := []) rfl rfl rfl)
theorem b_J1_indexOf_4cfef_5_4 (x1 : Int) (x2 : Int) (x3 : Int) (y0 : Int) : qG L xs d CJ1_indexOf_4cfef 4 [(2, 1015), (0, x1), (0, x2), (0, x3)] [(0, y0)] (qS v) = if y0 = 0 then qG L xs d CJ1_indexOf_4cfef 7 [(2, 1015), (0, x1), (0, x2), (0, x3)] [] (qS v) else qG L xs d CJ1_indexOf_4cfef 9 [(2, 1015), (0, x1), (0, x2), (0, x3)] [] (qS v) := (qG_stk 1 _ _ _ _).trans qG_if
theorem b_J1_indexOf_4cfef_5_9 (x1 : Int) (x2 : Int) (x3 : Int) : qG L xs d CJ1_indexOf_4cfef 9 [(2, 1015), (0, x1), (0, x2), (0, x3)] [] (qS v) = if pm_max x2 0 < pm_min x3 3 then qG L xs d CJ1_indexOf_4cfef 29 [(2, 1015), (0, x1), (0, pm_max x2 0), (0, pm_min x3 3)] [] (qS v) else qG L xs d CJ1_indexOf_4cfef 27 [(2, 1015), (0, x1), (0, pm_max x2 0), (0, pm_min x3 3)] [] (qS v) := (qG_stk 12 _ _ _ _).trans qG_if
theorem b_J1_indexOf_4cfef_5_29 (x1 : Int) (x2 : Int) (x3 : Int) : qG L xs d CJ1_indexOf_4cfef 29 [(2, 1015), (0, x1), (0, x2), (0, x3)] [] (qS v) = qB (qE L xs d nJ1_indexOfChar_4cfef [(2, 1015), (0, x1), (0, x2), (0, x3)] (qS v)) (fun r σ => qG L xs d CJ1_indexOf_4cfef 36 [(2, 1015), (0, x1), (0, x2), (0, x3)] (pm_psh r []) σ) := (qG_stk 4 _ _ _ _).trans (qG_call (as := [(2, 1015), (0, x1), (0, x2), (0, x3)]) (rest := []) rfl rfl rfl)
theorem b_J1_indexOf_4cfef_5_36 (x1 : Int) (x2 : Int) (x3 : Int) (y0 : Int) : qG L xs d CJ1_indexOf_4cfef 36 [(2, 1015), (0, x1), (0, x2), (0, x3)] [(0, y0)] (qS v) = some (some (0, y0), qS v) := qG_stk 1 _ _ _ _
theorem e_J1_indexOfChar_4cfef_5 (x1 : Int) (x2 : Int) (x3 : Int) (σ : pm_S) : qE L xs (d + 1) nJ1_indexOfChar_4cfef [(2, 1015), (0, x1), (0, x2), (0, x3)] σ = qG L xs d CJ1_indexOfChar_4cfef 0 [(2, 1015), (0, x1), (0, x2), (0, x3), (9, 0), (9, 0)] [] σ := rfl
theorem b_J1_indexOfChar_4cfef_5_0 (x1 : Int) (x2 : Int) (x3 : Int) : qG L xs d CJ1_indexOfChar_4cfef 0 [(2, 1015), (0, x1), (0, x2), (0, x3), (9, 0), (9, 0)] [] (qS v) = qG L xs d CJ1_indexOfChar_4cfef 7 [(2, 1015), (0, x1), (0, x2), (0, x3), (0, w8 x1), (0, x2)] [] (qS v) := qG_stk 5 _ _ _ _
theorem b_J1_indexOfChar_4cfef_5_7 (x1 : Int) (x2 : Int) (x3 : Int) (x4 : Int) (x5 : Int) : qG L xs d CJ1_indexOfChar_4cfef 7 [(2, 1015), (0, x1), (0, x2), (0, x3), (0, x4), (0, x5)] [] (qS v) = if x5 < x3 then qG L xs d CJ1_indexOfChar_4cfef 13 [(2, 1015), (0, x1), (0, x2), (0, x3), (0, x4), (0, x5)] [] (qS v) else qG L xs d CJ1_indexOfChar_4cfef 31 [(2, 1015), (0, x1), (0, x2), (0, x3), (0, x4), (0, x5)] [] (qS v) := (qG_stk 3 _ _ _ _).trans qG_if
theorem b_J1_indexOfChar_4cfef_5_13 (x1 : Int) (x2 : Int) (x3 : Int) (x4 : Int) (x5 : Int) : qG L xs d CJ1_indexOfChar_4cfef 13 [(2, 1015), (0, x1), (0, x2), (0, x3), (0, x4), (0, x5)] [] (qS v) = if 0 ≤ x5 ∧ x5 < 3 then qG L xs d CJ1_indexOfChar_4cfef 17 [(2, 1015), (0, x1), (0, x2), (0, x3), (0, x4), (0, x5)] [(0, pm_lof [60, 61, 62] (Int.toNat x5))] (qS v) else none := (qG_stk 2 _ _ _ _).trans (qG_ald (n := 3) (t := 0) (f := pm_lof [60, 61, 62]) rfl rfl)
theorem b_J1_indexOfChar_4cfef_5_17 (x1 : Int) (x2 : Int) (x3 : Int) (x4 : Int) (x5 : Int) (y0 : Int) : qG L xs d CJ1_indexOfChar_4cfef 17 [(2, 1015), (0, x1), (0, x2), (0, x3), (0, x4), (0, x5)] [(0, y0)] (qS v) = if y0 = x4 then qG L xs d CJ1_indexOfChar_4cfef 22 [(2, 1015), (0, x1), (0, x2), (0, x3), (0, x4), (0, x5)] [] (qS v) else qG L xs d CJ1_indexOfChar_4cfef 25 [(2, 1015), (0, x1), (0, x2), (0, x3), (0, x4), (0, x5)] [] (qS v) := (qG_stk 2 _ _ _ _).trans qG_if
theorem b_J1_indexOfChar_4cfef_5_22 (x1 : Int) (x2 : Int) (x3 : Int) (x4 : Int) (x5 : Int) : qG L xs d CJ1_indexOfChar_4cfef 22 [(2, 1015), (0, x1), (0, x2), (0, x3), (0, x4), (0, x5)] [] (qS v) = some (some (0, x5), qS v) := qG_stk 2 _ _ _ _
theorem b_J1_indexOfChar_4cfef_5_25 (x1 : Int) (x2 : Int) (x3 : Int) (x4 : Int) (x5 : Int) : qG L xs d CJ1_indexOfChar_4cfef 25 [(2, 1015), (0, x1), (0, x2), (0, x3), (0, x4), (0, x5)] [] (qS v) = qG L xs d CJ1_indexOfChar_4cfef 7 [(2, 1015), (0, x1), (0, x2), (0, x3), (0, x4), (0, w32 (x5 + 1))] [] (qS v) := qG_stk 2 _ _ _ _
theorem b_J1_indexOfChar_4cfef_5_31 (x1 : Int) (x2 : Int) (x3 : Int) (x4 : Int) (x5 : Int) : qG L xs d CJ1_indexOfChar_4cfef 31 [(2, 1015), (0, x1), (0, x2), (0, x3), (0, x4), (0, x5)] [] (qS v) = some (some (0, (-1)), qS v) := qG_stk 2 _ _ _ _
theorem e_J0_coder_7d493_6 (σ : pm_S) : qE L xs (d + 1) nJ0_coder_7d493 [(2, 2006)] σ = qG L xs d CJ0_coder_7d493 0 [(2, 2006)] [] σ := rfl
theorem b_J0_coder_7d493_6_0 : qG L xs d CJ0_coder_7d493 0 [(2, 2006)] [] (qS v) = qG L xs d CJ0_coder_7d493 6 [(2, 2006)] [] (qS v) := qG_stk 2 _ _ _ _
theorem b_J0_coder_7d493_6_6 : qG L xs d CJ0_coder_7d493 6 [(2, 2006)] [] (qS v) = qG L xs d CJ0_coder_7d493 14 [(2, 2006)] [(0, 0)] (qS v) := qG_stk 3 _ _ _ _
theorem e_J0_isLatin1_aae02_6 (σ : pm_S) : qE L xs (d + 1) nJ0_isLatin1_aae02 [(2, 2006)] σ = qG L xs d CJ0_isLatin1_aae02 0 [(2, 2006)] [] σ := rfl
theorem b_J0_isLatin1_aae02_6_0 : qG L xs d CJ0_isLatin1_aae02 0 [(2, 2006)] [] (qS v) = qG L xs d CJ0_isLatin1_aae02 6 [(2, 2006)] [] (qS v) := qG_stk 2 _ _ _ _
theorem b_J0_isLatin1_aae02_6_6 : qG L xs d CJ0_isLatin1_aae02 6 [(2, 2006)] [] (qS v) = qG L xs d CJ0_isLatin1_aae02 13 [(2, 2006)] [] (qS v) := qG_stk 3 _ _ _ _
theorem b_J0_isLatin1_aae02_6_13 : qG L xs d CJ0_isLatin1_aae02 13 [(2, 2006)] [] (qS v) = qG L xs d CJ0_isLatin1_aae02 18 [(2, 2006)] [(0, 1)] (qS v) := qG_stk 2 _ _ _ _
theorem b_J0_isLatin1_aae02_6_18 (y0 : Int) : qG L xs d CJ0_isLatin1_aae02 18 [(2, 2006)] [(0, y0)] (qS v) = if y0 = 0 ∨ y0 = 1 then some (some (0, y0), qS v) else none := qG_retb _ _ rfl
theorem e_J0_length_8abf5_6 (σ : pm_S) : qE L xs (d + 1) nJ0_length_8abf5 [(2, 2006)] σ = qG L xs d CJ0_length_8abf5 0 [(2, 2006)] [] σ := rfl
theorem b_J0_length_8abf5_6_0 : qG L xs d CJ0_length_8abf5 0 [(2, 2006)] [] (qS v) = qB (qE L xs d nJ0_coder_7d493 [(2, 2006)] (qS v)) (fun r σ => qG L xs d CJ0_length_8abf5 9 [(2, 2006)] (pm_psh r [(0, 2)]) σ) := (qG_stk 4 _ _ _ _).trans (qG_call (as := [(2, 2006)]) (rest := [(0, 2)]) rfl rfl rfl)
theorem b_J0_length_8abf5_6_9 (y0 : Int) (y1 : Int) : qG L xs d CJ0_length_8abf5 9 [(2, 2006)] [(0, y1), (0, y0)] (qS v) = some (some (0, pm_shr y0 y1), qS v) := qG_stk 2 _ _ _ _
theorem e_J0_indexOf_0f7a4_6 (x1 : Int) (σ : pm_S) : qE L xs (d + 1) nJ0_indexOf_0f7a4 [(2, 2006), (0, x1)] σ = qG L xs d CJ0_indexOf_0f7a4 0 [(2, 2006), (0, x1)] [] σ := rfl
theorem b_J0_indexOf_0f7a4_6_0 (x1 : Int) : qG L xs d CJ0_indexOf_0f7a4 0 [(2, 2006), (0, x1)] [] (qS v) = qB (qE L xs d nJ0_indexOf_7cf53 [(2, 2006), (0, x1), (0, 0)] (qS v)) (fun r σ => qG L xs d CJ0_indexOf_0f7a4 6 [(2, 2006), (0, x1)] (pm_psh r []) σ) := (qG_stk 3 _ _ _ _).trans (qG_call (as := [(2, 2006), (0, x1), (0, 0)]) (rest := []) rfl rfl rfl)
theorem b_J0_indexOf_0f7a4_6_6 (x1 : Int) (y0 : Int) : qG L xs d CJ0_indexOf_0f7a4 6 [(2, 2006), (0, x1)] [(0, y0)] (qS v) = some (some (0, y0), qS v) := qG_stk 1 _ _ _ _
theorem e_J0_indexOf_7cf53_6 (x1 : Int) (x2 : Int) (σ : pm_S) : qE L xs (d + 1) nJ0_indexOf_7cf53 [(2, 2006), (0, x1), (0, x2)] σ = qG L xs d CJ0_indexOf_7cf53 0 [(2, 2006), (0, x1), (0, x2)] [] σ := rfl
theorem b_J0_indexOf_7cf53_6_0 (x1 : Int) (x2 : Int) : qG L xs d CJ0_indexOf_7cf53 0 [(2, 2006), (0, x1), (0, x2)] [] (qS v) = qB (qE L xs d nJ0_isLatin1_aae02 [(2, 2006)] (qS v)) (fun r σ => qG L xs d CJ0_indexOf_7cf53 4 [(2, 2006), (0, x1), (0, x2)] (pm_psh r []) σ) := (qG_stk 1 _ _ _ _).trans (qG_call (as := [(2, 2006)]) (rest := []) rfl rfl rfl)
theorem b_J0_indexOf_7cf53_6_4 (x1 : Int) (x2 : Int) (y0 : Int) : qG L xs d CJ0_indexOf_7cf53 4 [(2, 2006), (0, x1), (0, x2)] [(0, y0)] (qS v) = if y0 = 0 then qG L xs d CJ0_indexOf_7cf53 23 [(2, 2006), (0, x1), (0, x2)] [] (qS v) else qG L xs d CJ0_indexOf_7cf53 7 [(2, 2006), (0, x1), (0, x2)] [] (qS v) := (qG_stk 1 _ _ _ _).trans qG_if
theorem b_J0_indexOf_7cf53_6_7 (x1 : Int) (x2 : Int) : qG L xs d CJ0_indexOf_7cf53 7 [(2, 2006), (0, x1), (0, x2)] [] (qS v) = qB (qE L xs d nJ0_length_8abf5 [(2, 2006)] (qS v)) (fun r σ => qG L xs d CJ0_indexOf_7cf53 17 [(2, 2006), (0, x1), (0, x2)] (pm_psh r [(0, x2), (0, x1), (2, 1016)]) σ) := (qG_stk 5 _ _ _ _).trans (qG_call (as := [(2, 2006)]) (rest := [(0, x2), (0, x1), (2, 1016)]) rfl rfl rfl)
theorem b_J0_indexOf_7cf53_6_17 (x1 : Int) (x2 : Int) (y1 : Int) (y2 : Int) (y3 : Int) : qG L xs d CJ0_indexOf_7cf53 17 [(2, 2006), (0, x1), (0, x2)] [(0, y3), (0, y2), (0, y1), (2, 1016)] (qS v) = qB (qE L xs d nJ1_indexOf_4cfef [(2, 1016), (0, y1), (0, y2), (0, y3)] (qS v)) (fun r σ => qG L xs d CJ0_indexOf_7cf53 20 [(2, 2006), (0, x1), (0, x2)] (pm_psh r []) σ) := qG_call (as := [(2, 1016), (0, y1), (0, y2), (0, y3)]) (rest := []) rfl rfl rfl
theorem b_J0_indexOf_7cf53_6_20 (x1 : Int) (x2 : Int) (y0 : Int) : qG L xs d CJ0_indexOf_7cf53 20 [(2, 2006), (0, x1), (0, x2)] [(0, y0)] (qS v) = qG L xs d CJ0_indexOf_7cf53 36 [(2, 2006), (0, x1), (0, x2)] [(0, y0)] (qS v) := qG_stk 1 _ _ _ _
theorem b_J0_indexOf_7cf53_6_36 (x1 : Int) (x2 : Int) (y0 : Int) : qG L xs d CJ0_indexOf_7cf53 36 [(2, 2006), (0, x1), (0, x2)] [(0, y0)] (qS v) = some (some (0, y0), qS v) := qG_stk 1 _ _ _ _
theorem e_J1_indexOf_4cfef_6 (x1 : Int) (x2 : Int) (x3 : Int) (σ : pm_S) : qE L xs (d + 1) nJ1_indexOf_4cfef [(2, 1016), (0, x1), (0, x2), (0, x3)] σ = qG L xs d CJ1_indexOf_4cfef 0 [(2, 1016), (0, x1), (0, x2), (0, x3)] [] σ := rfl
theorem b_J1_indexOf_4cfef_6_0 (x1 : Int) (x2 : Int) (x3 : Int) : qG L xs d CJ1_indexOf_4cfef 0 [(2, 1016), (0, x1), (0, x2), (0, x3)] [] (qS v) = qB (qE L xs d nJ1_canEncode_9a6ad [(0, x1)] (qS v)) (fun r σ => qG L xs d CJ1_indexOf_4cfef 4 [(2, 1016), (0, x1), (0, x2), (0, x3)] (pm_psh r []) σ) := (qG_stk 1 _ _ _ _).trans (qG_call (as := [(0, x1)]) (rest := []) rfl rfl rfl)
theorem b_J1_indexOf_4cfef_6_4 (x1 : Int) (x2 : Int) (x3 : Int) (y0 : Int) : qG L xs d CJ1_indexOf_4cfef 4 [(2, 1016), (0, x1), (0, x2), (0, x3)] [(0, y0)] (qS v) = if y0 = 0 then qG L xs d CJ1_indexOf_4cfef 7 [(2, 1016), (0, x1), (0, x2), (0, x3)] [] (qS v) else qG L xs d CJ1_indexOf_4cfef 9 [(2, 1016), (0, x1), (0, x2), (0, x3)] [] (qS v) := (qG_stk 1 _ _ _ _).trans qG_if
theorem b_J1_indexOf_4cfef_6_9 (x1 : Int) (x2 : Int) (x3 : Int) : qG L xs d CJ1_indexOf_4cfef 9 [(2, 1016), (0, x1), (0, x2), (0, x3)] [] (qS v) = if pm_max x2 0 < pm_min x3 2 then qG L xs d CJ1_indexOf_4cfef 29 [(2, 1016), (0, x1), (0, pm_max x2 0), (0, pm_min x3 2)] [] (qS v) else qG L xs d CJ1_indexOf_4cfef 27 [(2, 1016), (0, x1), (0, pm_max x2 0), (0, pm_min x3 2)] [] (qS v) := (qG_stk 12 _ _ _ _).trans qG_if
theorem b_J1_indexOf_4cfef_6_29 (x1 : Int) (x2 : Int) (x3 : Int) : qG L xs d CJ1_indexOf_4cfef 29 [(2, 1016), (0, x1), (0, x2), (0, x3)] [] (qS v) = qB (qE L xs d nJ1_indexOfChar_4cfef [(2, 1016), (0, x1), (0, x2), (0, x3)] (qS v)) (fun r σ => qG L xs d CJ1_indexOf_4cfef 36 [(2, 1016), (0, x1), (0, x2), (0, x3)] (pm_psh r []) σ) := (qG_stk 4 _ _ _ _).trans (qG_call (as := [(2, 1016), (0, x1), (0, x2), (0, x3)]) (rest := []) rfl rfl rfl)
theorem b_J1_indexOf_4cfef_6_36 (x1 : Int) (x2 : Int) (x3 : Int) (y0 : Int) : qG L xs d CJ1_indexOf_4cfef 36 [(2, 1016), (0, x1), (0, x2), (0, x3)] [(0, y0)] (qS v) = some (some (0, y0), qS v) := qG_stk 1 _ _ _ _
theorem e_J1_indexOfChar_4cfef_6 (x1 : Int) (x2 : Int) (x3 : Int) (σ : pm_S) : qE L xs (d + 1) nJ1_indexOfChar_4cfef [(2, 1016), (0, x1), (0, x2), (0, x3)] σ = qG L xs d CJ1_indexOfChar_4cfef 0 [(2, 1016), (0, x1), (0, x2), (0, x3), (9, 0), (9, 0)] [] σ := rfl
theorem b_J1_indexOfChar_4cfef_6_0 (x1 : Int) (x2 : Int) (x3 : Int) : qG L xs d CJ1_indexOfChar_4cfef 0 [(2, 1016), (0, x1), (0, x2), (0, x3), (9, 0), (9, 0)] [] (qS v) = qG L xs d CJ1_indexOfChar_4cfef 7 [(2, 1016), (0, x1), (0, x2), (0, x3), (0, w8 x1), (0, x2)] [] (qS v) := qG_stk 5 _ _ _ _
theorem b_J1_indexOfChar_4cfef_6_7 (x1 : Int) (x2 : Int) (x3 : Int) (x4 : Int) (x5 : Int) : qG L xs d CJ1_indexOfChar_4cfef 7 [(2, 1016), (0, x1), (0, x2), (0, x3), (0, x4), (0, x5)] [] (qS v) = if x5 < x3 then qG L xs d CJ1_indexOfChar_4cfef 13 [(2, 1016), (0, x1), (0, x2), (0, x3), (0, x4), (0, x5)] [] (qS v) else qG L xs d CJ1_indexOfChar_4cfef 31 [(2, 1016), (0, x1), (0, x2), (0, x3), (0, x4), (0, x5)] [] (qS v) := (qG_stk 3 _ _ _ _).trans qG_if
theorem b_J1_indexOfChar_4cfef_6_13 (x1 : Int) (x2 : Int) (x3 : Int) (x4 : Int) (x5 : Int) : qG L xs d CJ1_indexOfChar_4cfef 13 [(2, 1016), (0, x1), (0, x2), (0, x3), (0, x4), (0, x5)] [] (qS v) = if 0 ≤ x5 ∧ x5 < 2 then qG L xs d CJ1_indexOfChar_4cfef 17 [(2, 1016), (0, x1), (0, x2), (0, x3), (0, x4), (0, x5)] [(0, pm_lof [43, 45] (Int.toNat x5))] (qS v) else none := (qG_stk 2 _ _ _ _).trans (qG_ald (n := 2) (t := 0) (f := pm_lof [43, 45]) rfl rfl)
theorem b_J1_indexOfChar_4cfef_6_17 (x1 : Int) (x2 : Int) (x3 : Int) (x4 : Int) (x5 : Int) (y0 : Int) : qG L xs d CJ1_indexOfChar_4cfef 17 [(2, 1016), (0, x1), (0, x2), (0, x3), (0, x4), (0, x5)] [(0, y0)] (qS v) = if y0 = x4 then qG L xs d CJ1_indexOfChar_4cfef 22 [(2, 1016), (0, x1), (0, x2), (0, x3), (0, x4), (0, x5)] [] (qS v) else qG L xs d CJ1_indexOfChar_4cfef 25 [(2, 1016), (0, x1), (0, x2), (0, x3), (0, x4), (0, x5)] [] (qS v) := (qG_stk 2 _ _ _ _).trans qG_if
theorem b_J1_indexOfChar_4cfef_6_22 (x1 : Int) (x2 : Int) (x3 : Int) (x4 : Int) (x5 : Int) : qG L xs d CJ1_indexOfChar_4cfef 22 [(2, 1016), (0, x1), (0, x2), (0, x3), (0, x4), (0, x5)] [] (qS v) = some (some (0, x5), qS v) := qG_stk 2 _ _ _ _
theorem b_J1_indexOfChar_4cfef_6_25 (x1 : Int) (x2 : Int) (x3 : Int) (x4 : Int) (x5 : Int) : qG L xs d CJ1_indexOfChar_4cfef 25 [(2, 1016), (0, x1), (0, x2), (0, x3), (0, x4), (0, x5)] [] (qS v) = qG L xs d CJ1_indexOfChar_4cfef 7 [(2, 1016), (0, x1), (0, x2), (0, x3), (0, x4), (0, w32 (x5 + 1))] [] (qS v) := qG_stk 2 _ _ _ _
theorem b_J1_indexOfChar_4cfef_6_31 (x1 : Int) (x2 : Int) (x3 : Int) (x4 : Int) (x5 : Int) : qG L xs d CJ1_indexOfChar_4cfef 31 [(2, 1016), (0, x1), (0, x2), (0, x3), (0, x4), (0, x5)] [] (qS v) = some (some (0, (-1)), qS v) := qG_stk 2 _ _ _ _
theorem e_J0_coder_7d493_7 (σ : pm_S) : qE L xs (d + 1) nJ0_coder_7d493 [(2, 2007)] σ = qG L xs d CJ0_coder_7d493 0 [(2, 2007)] [] σ := rfl
theorem b_J0_coder_7d493_7_0 : qG L xs d CJ0_coder_7d493 0 [(2, 2007)] [] (qS v) = qG L xs d CJ0_coder_7d493 6 [(2, 2007)] [] (qS v) := qG_stk 2 _ _ _ _
theorem b_J0_coder_7d493_7_6 : qG L xs d CJ0_coder_7d493 6 [(2, 2007)] [] (qS v) = qG L xs d CJ0_coder_7d493 14 [(2, 2007)] [(0, 0)] (qS v) := qG_stk 3 _ _ _ _
theorem e_J0_isLatin1_aae02_7 (σ : pm_S) : qE L xs (d + 1) nJ0_isLatin1_aae02 [(2, 2007)] σ = qG L xs d CJ0_isLatin1_aae02 0 [(2, 2007)] [] σ := rfl
theorem b_J0_isLatin1_aae02_7_0 : qG L xs d CJ0_isLatin1_aae02 0 [(2, 2007)] [] (qS v) = qG L xs d CJ0_isLatin1_aae02 6 [(2, 2007)] [] (qS v) := qG_stk 2 _ _ _ _
theorem b_J0_isLatin1_aae02_7_6 : qG L xs d CJ0_isLatin1_aae02 6 [(2, 2007)] [] (qS v) = qG L xs d CJ0_isLatin1_aae02 13 [(2, 2007)] [] (qS v) := qG_stk 3 _ _ _ _
theorem b_J0_isLatin1_aae02_7_13 : qG L xs d CJ0_isLatin1_aae02 13 [(2, 2007)] [] (qS v) = qG L xs d CJ0_isLatin1_aae02 18 [(2, 2007)] [(0, 1)] (qS v) := qG_stk 2 _ _ _ _
theorem b_J0_isLatin1_aae02_7_18 (y0 : Int) : qG L xs d CJ0_isLatin1_aae02 18 [(2, 2007)] [(0, y0)] (qS v) = if y0 = 0 ∨ y0 = 1 then some (some (0, y0), qS v) else none := qG_retb _ _ rfl
theorem e_J0_length_8abf5_7 (σ : pm_S) : qE L xs (d + 1) nJ0_length_8abf5 [(2, 2007)] σ = qG L xs d CJ0_length_8abf5 0 [(2, 2007)] [] σ := rfl
theorem b_J0_length_8abf5_7_0 : qG L xs d CJ0_length_8abf5 0 [(2, 2007)] [] (qS v) = qB (qE L xs d nJ0_coder_7d493 [(2, 2007)] (qS v)) (fun r σ => qG L xs d CJ0_length_8abf5 9 [(2, 2007)] (pm_psh r [(0, 3)]) σ) := (qG_stk 4 _ _ _ _).trans (qG_call (as := [(2, 2007)]) (rest := [(0, 3)]) rfl rfl rfl)
theorem b_J0_length_8abf5_7_9 (y0 : Int) (y1 : Int) : qG L xs d CJ0_length_8abf5 9 [(2, 2007)] [(0, y1), (0, y0)] (qS v) = some (some (0, pm_shr y0 y1), qS v) := qG_stk 2 _ _ _ _
theorem e_J0_indexOf_0f7a4_7 (x1 : Int) (σ : pm_S) : qE L xs (d + 1) nJ0_indexOf_0f7a4 [(2, 2007), (0, x1)] σ = qG L xs d CJ0_indexOf_0f7a4 0 [(2, 2007), (0, x1)] [] σ := rfl
theorem b_J0_indexOf_0f7a4_7_0 (x1 : Int) : qG L xs d CJ0_indexOf_0f7a4 0 [(2, 2007), (0, x1)] [] (qS v) = qB (qE L xs d nJ0_indexOf_7cf53 [(2, 2007), (0, x1), (0, 0)] (qS v)) (fun r σ => qG L xs d CJ0_indexOf_0f7a4 6 [(2, 2007), (0, x1)] (pm_psh r []) σ) := (qG_stk 3 _ _ _ _).trans (qG_call (as := [(2, 2007), (0, x1), (0, 0)]) (rest := []) rfl rfl rfl)
theorem b_J0_indexOf_0f7a4_7_6 (x1 : Int) (y0 : Int) : qG L xs d CJ0_indexOf_0f7a4 6 [(2, 2007), (0, x1)] [(0, y0)] (qS v) = some (some (0, y0), qS v) := qG_stk 1 _ _ _ _
theorem e_J0_indexOf_7cf53_7 (x1 : Int) (x2 : Int) (σ : pm_S) : qE L xs (d + 1) nJ0_indexOf_7cf53 [(2, 2007), (0, x1), (0, x2)] σ = qG L xs d CJ0_indexOf_7cf53 0 [(2, 2007), (0, x1), (0, x2)] [] σ := rfl
theorem b_J0_indexOf_7cf53_7_0 (x1 : Int) (x2 : Int) : qG L xs d CJ0_indexOf_7cf53 0 [(2, 2007), (0, x1), (0, x2)] [] (qS v) = qB (qE L xs d nJ0_isLatin1_aae02 [(2, 2007)] (qS v)) (fun r σ => qG L xs d CJ0_indexOf_7cf53 4 [(2, 2007), (0, x1), (0, x2)] (pm_psh r []) σ) := (qG_stk 1 _ _ _ _).trans (qG_call (as := [(2, 2007)]) (rest := []) rfl rfl rfl)
theorem b_J0_indexOf_7cf53_7_4 (x1 : Int) (x2 : Int) (y0 : Int) : qG L xs d CJ0_indexOf_7cf53 4 [(2, 2007), (0, x1), (0, x2)] [(0, y0)] (qS v) = if y0 = 0 then qG L xs d CJ0_indexOf_7cf53 23 [(2, 2007), (0, x1), (0, x2)] [] (qS v) else qG L xs d CJ0_indexOf_7cf53 7 [(2, 2007), (0, x1), (0, x2)] [] (qS v) := (qG_stk 1 _ _ _ _).trans qG_if
theorem b_J0_indexOf_7cf53_7_7 (x1 : Int) (x2 : Int) : qG L xs d CJ0_indexOf_7cf53 7 [(2, 2007), (0, x1), (0, x2)] [] (qS v) = qB (qE L xs d nJ0_length_8abf5 [(2, 2007)] (qS v)) (fun r σ => qG L xs d CJ0_indexOf_7cf53 17 [(2, 2007), (0, x1), (0, x2)] (pm_psh r [(0, x2), (0, x1), (2, 1017)]) σ) := (qG_stk 5 _ _ _ _).trans (qG_call (as := [(2, 2007)]) (rest := [(0, x2), (0, x1), (2, 1017)]) rfl rfl rfl)
theorem b_J0_indexOf_7cf53_7_17 (x1 : Int) (x2 : Int) (y1 : Int) (y2 : Int) (y3 : Int) : qG L xs d CJ0_indexOf_7cf53 17 [(2, 2007), (0, x1), (0, x2)] [(0, y3), (0, y2), (0, y1), (2, 1017)] (qS v) = qB (qE L xs d nJ1_indexOf_4cfef [(2, 1017), (0, y1), (0, y2), (0, y3)] (qS v)) (fun r σ => qG L xs d CJ0_indexOf_7cf53 20 [(2, 2007), (0, x1), (0, x2)] (pm_psh r []) σ) := qG_call (as := [(2, 1017), (0, y1), (0, y2), (0, y3)]) (rest := []) rfl rfl rfl
theorem b_J0_indexOf_7cf53_7_20 (x1 : Int) (x2 : Int) (y0 : Int) : qG L xs d CJ0_indexOf_7cf53 20 [(2, 2007), (0, x1), (0, x2)] [(0, y0)] (qS v) = qG L xs d CJ0_indexOf_7cf53 36 [(2, 2007), (0, x1), (0, x2)] [(0, y0)] (qS v) := qG_stk 1 _ _ _ _
theorem b_J0_indexOf_7cf53_7_36 (x1 : Int) (x2 : Int) (y0 : Int) : qG L xs d CJ0_indexOf_7cf53 36 [(2, 2007), (0, x1), (0, x2)] [(0, y0)] (qS v) = some (some (0, y0), qS v) := qG_stk 1 _ _ _ _
theorem e_J1_indexOf_4cfef_7 (x1 : Int) (x2 : Int) (x3 : Int) (σ : pm_S) : qE L xs (d + 1) nJ1_indexOf_4cfef [(2, 1017), (0, x1), (0, x2), (0, x3)] σ = qG L xs d CJ1_indexOf_4cfef 0 [(2, 1017), (0, x1), (0, x2), (0, x3)] [] σ := rfl
theorem b_J1_indexOf_4cfef_7_0 (x1 : Int) (x2 : Int) (x3 : Int) : qG L xs d CJ1_indexOf_4cfef 0 [(2, 1017), (0, x1), (0, x2), (0, x3)] [] (qS v) = qB (qE L xs d nJ1_canEncode_9a6ad [(0, x1)] (qS v)) (fun r σ => qG L xs d CJ1_indexOf_4cfef 4 [(2, 1017), (0, x1), (0, x2), (0, x3)] (pm_psh r []) σ) := (qG_stk 1 _ _ _ _).trans (qG_call (as := [(0, x1)]) (rest := []) rfl rfl rfl)
theorem b_J1_indexOf_4cfef_7_4 (x1 : Int) (x2 : Int) (x3 : Int) (y0 : Int) : qG L xs d CJ1_indexOf_4cfef 4 [(2, 1017), (0, x1), (0, x2), (0, x3)] [(0, y0)] (qS v) = if y0 = 0 then qG L xs d CJ1_indexOf_4cfef 7 [(2, 1017), (0, x1), (0, x2), (0, x3)] [] (qS v) else qG L xs d CJ1_indexOf_4cfef 9 [(2, 1017), (0, x1), (0, x2), (0, x3)] [] (qS v) := (qG_stk 1 _ _ _ _).trans qG_if
theorem b_J1_indexOf_4cfef_7_9 (x1 : Int) (x2 : Int) (x3 : Int) : qG L xs d CJ1_indexOf_4cfef 9 [(2, 1017), (0, x1), (0, x2), (0, x3)] [] (qS v) = if pm_max x2 0 < pm_min x3 3 then qG L xs d CJ1_indexOf_4cfef 29 [(2, 1017), (0, x1), (0, pm_max x2 0), (0, pm_min x3 3)] [] (qS v) else qG L xs d CJ1_indexOf_4cfef 27 [(2, 1017), (0, x1), (0, pm_max x2 0), (0, pm_min x3 3)] [] (qS v) := (qG_stk 12 _ _ _ _).trans qG_if
theorem b_J1_indexOf_4cfef_7_29 (x1 : Int) (x2 : Int) (x3 : Int) : qG L xs d CJ1_indexOf_4cfef 29 [(2, 1017), (0, x1), (0, x2), (0, x3)] [] (qS v) = qB (qE L xs d nJ1_indexOfChar_4cfef [(2, 1017), (0, x1), (0, x2), (0, x3)] (qS v)) (fun r σ => qG L xs d CJ1_indexOf_4cfef 36 [(2, 1017), (0, x1), (0, x2), (0, x3)] (pm_psh r []) σ) := (qG_stk 4 _ _ _ _).trans (qG_call (as := [(2, 1017), (0, x1), (0, x2), (0, x3)]) (rest := []) rfl rfl rfl)
theorem b_J1_indexOf_4cfef_7_36 (x1 : Int) (x2 : Int) (x3 : Int) (y0 : Int) : qG L xs d CJ1_indexOf_4cfef 36 [(2, 1017), (0, x1), (0, x2), (0, x3)] [(0, y0)] (qS v) = some (some (0, y0), qS v) := qG_stk 1 _ _ _ _
theorem e_J1_indexOfChar_4cfef_7 (x1 : Int) (x2 : Int) (x3 : Int) (σ : pm_S) : qE L xs (d + 1) nJ1_indexOfChar_4cfef [(2, 1017), (0, x1), (0, x2), (0, x3)] σ = qG L xs d CJ1_indexOfChar_4cfef 0 [(2, 1017), (0, x1), (0, x2), (0, x3), (9, 0), (9, 0)] [] σ := rfl
theorem b_J1_indexOfChar_4cfef_7_0 (x1 : Int) (x2 : Int) (x3 : Int) : qG L xs d CJ1_indexOfChar_4cfef 0 [(2, 1017), (0, x1), (0, x2), (0, x3), (9, 0), (9, 0)] [] (qS v) = qG L xs d CJ1_indexOfChar_4cfef 7 [(2, 1017), (0, x1), (0, x2), (0, x3), (0, w8 x1), (0, x2)] [] (qS v) := qG_stk 5 _ _ _ _
theorem b_J1_indexOfChar_4cfef_7_7 (x1 : Int) (x2 : Int) (x3 : Int) (x4 : Int) (x5 : Int) : qG L xs d CJ1_indexOfChar_4cfef 7 [(2, 1017), (0, x1), (0, x2), (0, x3), (0, x4), (0, x5)] [] (qS v) = if x5 < x3 then qG L xs d CJ1_indexOfChar_4cfef 13 [(2, 1017), (0, x1), (0, x2), (0, x3), (0, x4), (0, x5)] [] (qS v) else qG L xs d CJ1_indexOfChar_4cfef 31 [(2, 1017), (0, x1), (0, x2), (0, x3), (0, x4), (0, x5)] [] (qS v) := (qG_stk 3 _ _ _ _).trans qG_if
theorem b_J1_indexOfChar_4cfef_7_13 (x1 : Int) (x2 : Int) (x3 : Int) (x4 : Int) (x5 : Int) : qG L xs d CJ1_indexOfChar_4cfef 13 [(2, 1017), (0, x1), (0, x2), (0, x3), (0, x4), (0, x5)] [] (qS v) = if 0 ≤ x5 ∧ x5 < 3 then qG L xs d CJ1_indexOfChar_4cfef 17 [(2, 1017), (0, x1), (0, x2), (0, x3), (0, x4), (0, x5)] [(0, pm_lof [42, 47, 37] (Int.toNat x5))] (qS v) else none := (qG_stk 2 _ _ _ _).trans (qG_ald (n := 3) (t := 0) (f := pm_lof [42, 47, 37]) rfl rfl)
theorem b_J1_indexOfChar_4cfef_7_17 (x1 : Int) (x2 : Int) (x3 : Int) (x4 : Int) (x5 : Int) (y0 : Int) : qG L xs d CJ1_indexOfChar_4cfef 17 [(2, 1017), (0, x1), (0, x2), (0, x3), (0, x4), (0, x5)] [(0, y0)] (qS v) = if y0 = x4 then qG L xs d CJ1_indexOfChar_4cfef 22 [(2, 1017), (0, x1), (0, x2), (0, x3), (0, x4), (0, x5)] [] (qS v) else qG L xs d CJ1_indexOfChar_4cfef 25 [(2, 1017), (0, x1), (0, x2), (0, x3), (0, x4), (0, x5)] [] (qS v) := (qG_stk 2 _ _ _ _).trans qG_if
theorem b_J1_indexOfChar_4cfef_7_22 (x1 : Int) (x2 : Int) (x3 : Int) (x4 : Int) (x5 : Int) : qG L xs d CJ1_indexOfChar_4cfef 22 [(2, 1017), (0, x1), (0, x2), (0, x3), (0, x4), (0, x5)] [] (qS v) = some (some (0, x5), qS v) := qG_stk 2 _ _ _ _
theorem b_J1_indexOfChar_4cfef_7_25 (x1 : Int) (x2 : Int) (x3 : Int) (x4 : Int) (x5 : Int) : qG L xs d CJ1_indexOfChar_4cfef 25 [(2, 1017), (0, x1), (0, x2), (0, x3), (0, x4), (0, x5)] [] (qS v) = qG L xs d CJ1_indexOfChar_4cfef 7 [(2, 1017), (0, x1), (0, x2), (0, x3), (0, x4), (0, w32 (x5 + 1))] [] (qS v) := qG_stk 2 _ _ _ _
theorem b_J1_indexOfChar_4cfef_7_31 (x1 : Int) (x2 : Int) (x3 : Int) (x4 : Int) (x5 : Int) : qG L xs d CJ1_indexOfChar_4cfef 31 [(2, 1017), (0, x1), (0, x2), (0, x3), (0, x4), (0, x5)] [] (qS v) = some (some (0, (-1)), qS v) := qG_stk 2 _ _ _ _
theorem e_J0_coder_7d493_8 (σ : pm_S) : qE L xs (d + 1) nJ0_coder_7d493 [(2, 2008)] σ = qG L xs d CJ0_coder_7d493 0 [(2, 2008)] [] σ := rfl
theorem b_J0_coder_7d493_8_0 : qG L xs d CJ0_coder_7d493 0 [(2, 2008)] [] (qS v) = qG L xs d CJ0_coder_7d493 6 [(2, 2008)] [] (qS v) := qG_stk 2 _ _ _ _
theorem b_J0_coder_7d493_8_6 : qG L xs d CJ0_coder_7d493 6 [(2, 2008)] [] (qS v) = qG L xs d CJ0_coder_7d493 14 [(2, 2008)] [(0, 0)] (qS v) := qG_stk 3 _ _ _ _
theorem e_J0_isLatin1_aae02_8 (σ : pm_S) : qE L xs (d + 1) nJ0_isLatin1_aae02 [(2, 2008)] σ = qG L xs d CJ0_isLatin1_aae02 0 [(2, 2008)] [] σ := rfl
theorem b_J0_isLatin1_aae02_8_0 : qG L xs d CJ0_isLatin1_aae02 0 [(2, 2008)] [] (qS v) = qG L xs d CJ0_isLatin1_aae02 6 [(2, 2008)] [] (qS v) := qG_stk 2 _ _ _ _
theorem b_J0_isLatin1_aae02_8_6 : qG L xs d CJ0_isLatin1_aae02 6 [(2, 2008)] [] (qS v) = qG L xs d CJ0_isLatin1_aae02 13 [(2, 2008)] [] (qS v) := qG_stk 3 _ _ _ _
theorem b_J0_isLatin1_aae02_8_13 : qG L xs d CJ0_isLatin1_aae02 13 [(2, 2008)] [] (qS v) = qG L xs d CJ0_isLatin1_aae02 18 [(2, 2008)] [(0, 1)] (qS v) := qG_stk 2 _ _ _ _
theorem b_J0_isLatin1_aae02_8_18 (y0 : Int) : qG L xs d CJ0_isLatin1_aae02 18 [(2, 2008)] [(0, y0)] (qS v) = if y0 = 0 ∨ y0 = 1 then some (some (0, y0), qS v) else none := qG_retb _ _ rfl
theorem e_J0_length_8abf5_8 (σ : pm_S) : qE L xs (d + 1) nJ0_length_8abf5 [(2, 2008)] σ = qG L xs d CJ0_length_8abf5 0 [(2, 2008)] [] σ := rfl
theorem b_J0_length_8abf5_8_0 : qG L xs d CJ0_length_8abf5 0 [(2, 2008)] [] (qS v) = qB (qE L xs d nJ0_coder_7d493 [(2, 2008)] (qS v)) (fun r σ => qG L xs d CJ0_length_8abf5 9 [(2, 2008)] (pm_psh r [(0, 1)]) σ) := (qG_stk 4 _ _ _ _).trans (qG_call (as := [(2, 2008)]) (rest := [(0, 1)]) rfl rfl rfl)
theorem b_J0_length_8abf5_8_9 (y0 : Int) (y1 : Int) : qG L xs d CJ0_length_8abf5 9 [(2, 2008)] [(0, y1), (0, y0)] (qS v) = some (some (0, pm_shr y0 y1), qS v) := qG_stk 2 _ _ _ _
theorem e_J0_indexOf_0f7a4_8 (x1 : Int) (σ : pm_S) : qE L xs (d + 1) nJ0_indexOf_0f7a4 [(2, 2008), (0, x1)] σ = qG L xs d CJ0_indexOf_0f7a4 0 [(2, 2008), (0, x1)] [] σ := rfl
theorem b_J0_indexOf_0f7a4_8_0 (x1 : Int) : qG L xs d CJ0_indexOf_0f7a4 0 [(2, 2008), (0, x1)] [] (qS v) = qB (qE L xs d nJ0_indexOf_7cf53 [(2, 2008), (0, x1), (0, 0)] (qS v)) (fun r σ => qG L xs d CJ0_indexOf_0f7a4 6 [(2, 2008), (0, x1)] (pm_psh r []) σ) := (qG_stk 3 _ _ _ _).trans (qG_call (as := [(2, 2008), (0, x1), (0, 0)]) (rest := []) rfl rfl rfl)
theorem b_J0_indexOf_0f7a4_8_6 (x1 : Int) (y0 : Int) : qG L xs d CJ0_indexOf_0f7a4 6 [(2, 2008), (0, x1)] [(0, y0)] (qS v) = some (some (0, y0), qS v) := qG_stk 1 _ _ _ _
theorem e_J0_indexOf_7cf53_8 (x1 : Int) (x2 : Int) (σ : pm_S) : qE L xs (d + 1) nJ0_indexOf_7cf53 [(2, 2008), (0, x1), (0, x2)] σ = qG L xs d CJ0_indexOf_7cf53 0 [(2, 2008), (0, x1), (0, x2)] [] σ := rfl
theorem b_J0_indexOf_7cf53_8_0 (x1 : Int) (x2 : Int) : qG L xs d CJ0_indexOf_7cf53 0 [(2, 2008), (0, x1), (0, x2)] [] (qS v) = qB (qE L xs d nJ0_isLatin1_aae02 [(2, 2008)] (qS v)) (fun r σ => qG L xs d CJ0_indexOf_7cf53 4 [(2, 2008), (0, x1), (0, x2)] (pm_psh r []) σ) := (qG_stk 1 _ _ _ _).trans (qG_call (as := [(2, 2008)]) (rest := []) rfl rfl rfl)
theorem b_J0_indexOf_7cf53_8_4 (x1 : Int) (x2 : Int) (y0 : Int) : qG L xs d CJ0_indexOf_7cf53 4 [(2, 2008), (0, x1), (0, x2)] [(0, y0)] (qS v) = if y0 = 0 then qG L xs d CJ0_indexOf_7cf53 23 [(2, 2008), (0, x1), (0, x2)] [] (qS v) else qG L xs d CJ0_indexOf_7cf53 7 [(2, 2008), (0, x1), (0, x2)] [] (qS v) := (qG_stk 1 _ _ _ _).trans qG_if
theorem b_J0_indexOf_7cf53_8_7 (x1 : Int) (x2 : Int) : qG L xs d CJ0_indexOf_7cf53 7 [(2, 2008), (0, x1), (0, x2)] [] (qS v) = qB (qE L xs d nJ0_length_8abf5 [(2, 2008)] (qS v)) (fun r σ => qG L xs d CJ0_indexOf_7cf53 17 [(2, 2008), (0, x1), (0, x2)] (pm_psh r [(0, x2), (0, x1), (2, 1018)]) σ) := (qG_stk 5 _ _ _ _).trans (qG_call (as := [(2, 2008)]) (rest := [(0, x2), (0, x1), (2, 1018)]) rfl rfl rfl)
theorem b_J0_indexOf_7cf53_8_17 (x1 : Int) (x2 : Int) (y1 : Int) (y2 : Int) (y3 : Int) : qG L xs d CJ0_indexOf_7cf53 17 [(2, 2008), (0, x1), (0, x2)] [(0, y3), (0, y2), (0, y1), (2, 1018)] (qS v) = qB (qE L xs d nJ1_indexOf_4cfef [(2, 1018), (0, y1), (0, y2), (0, y3)] (qS v)) (fun r σ => qG L xs d CJ0_indexOf_7cf53 20 [(2, 2008), (0, x1), (0, x2)] (pm_psh r []) σ) := qG_call (as := [(2, 1018), (0, y1), (0, y2), (0, y3)]) (rest := []) rfl rfl rfl
theorem b_J0_indexOf_7cf53_8_20 (x1 : Int) (x2 : Int) (y0 : Int) : qG L xs d CJ0_indexOf_7cf53 20 [(2, 2008), (0, x1), (0, x2)] [(0, y0)] (qS v) = qG L xs d CJ0_indexOf_7cf53 36 [(2, 2008), (0, x1), (0, x2)] [(0, y0)] (qS v) := qG_stk 1 _ _ _ _
theorem b_J0_indexOf_7cf53_8_36 (x1 : Int) (x2 : Int) (y0 : Int) : qG L xs d CJ0_indexOf_7cf53 36 [(2, 2008), (0, x1), (0, x2)] [(0, y0)] (qS v) = some (some (0, y0), qS v) := qG_stk 1 _ _ _ _
theorem e_J1_indexOf_4cfef_8 (x1 : Int) (x2 : Int) (x3 : Int) (σ : pm_S) : qE L xs (d + 1) nJ1_indexOf_4cfef [(2, 1018), (0, x1), (0, x2), (0, x3)] σ = qG L xs d CJ1_indexOf_4cfef 0 [(2, 1018), (0, x1), (0, x2), (0, x3)] [] σ := rfl
theorem b_J1_indexOf_4cfef_8_0 (x1 : Int) (x2 : Int) (x3 : Int) : qG L xs d CJ1_indexOf_4cfef 0 [(2, 1018), (0, x1), (0, x2), (0, x3)] [] (qS v) = qB (qE L xs d nJ1_canEncode_9a6ad [(0, x1)] (qS v)) (fun r σ => qG L xs d CJ1_indexOf_4cfef 4 [(2, 1018), (0, x1), (0, x2), (0, x3)] (pm_psh r []) σ) := (qG_stk 1 _ _ _ _).trans (qG_call (as := [(0, x1)]) (rest := []) rfl rfl rfl)
theorem b_J1_indexOf_4cfef_8_4 (x1 : Int) (x2 : Int) (x3 : Int) (y0 : Int) : qG L xs d CJ1_indexOf_4cfef 4 [(2, 1018), (0, x1), (0, x2), (0, x3)] [(0, y0)] (qS v) = if y0 = 0 then qG L xs d CJ1_indexOf_4cfef 7 [(2, 1018), (0, x1), (0, x2), (0, x3)] [] (qS v) else qG L xs d CJ1_indexOf_4cfef 9 [(2, 1018), (0, x1), (0, x2), (0, x3)] [] (qS v) := (qG_stk 1 _ _ _ _).trans qG_if
theorem b_J1_indexOf_4cfef_8_9 (x1 : Int) (x2 : Int) (x3 : Int) : qG L xs d CJ1_indexOf_4cfef 9 [(2, 1018), (0, x1), (0, x2), (0, x3)] [] (qS v) = if pm_max x2 0 < pm_min x3 1 then qG L xs d CJ1_indexOf_4cfef 29 [(2, 1018), (0, x1), (0, pm_max x2 0), (0, pm_min x3 1)] [] (qS v) else qG L xs d CJ1_indexOf_4cfef 27 [(2, 1018), (0, x1), (0, pm_max x2 0), (0, pm_min x3 1)] [] (qS v) := (qG_stk 12 _ _ _ _).trans qG_if
theorem b_J1_indexOf_4cfef_8_29 (x1 : Int) (x2 : Int) (x3 : Int) : qG L xs d CJ1_indexOf_4cfef 29 [(2, 1018), (0, x1), (0, x2), (0, x3)] [] (qS v) = qB (qE L xs d nJ1_indexOfChar_4cfef [(2, 1018), (0, x1), (0, x2), (0, x3)] (qS v)) (fun r σ => qG L xs d CJ1_indexOf_4cfef 36 [(2, 1018), (0, x1), (0, x2), (0, x3)] (pm_psh r []) σ) := (qG_stk 4 _ _ _ _).trans (qG_call (as := [(2, 1018), (0, x1), (0, x2), (0, x3)]) (rest := []) rfl rfl rfl)
theorem b_J1_indexOf_4cfef_8_36 (x1 : Int) (x2 : Int) (x3 : Int) (y0 : Int) : qG L xs d CJ1_indexOf_4cfef 36 [(2, 1018), (0, x1), (0, x2), (0, x3)] [(0, y0)] (qS v) = some (some (0, y0), qS v) := qG_stk 1 _ _ _ _
theorem e_J1_indexOfChar_4cfef_8 (x1 : Int) (x2 : Int) (x3 : Int) (σ : pm_S) : qE L xs (d + 1) nJ1_indexOfChar_4cfef [(2, 1018), (0, x1), (0, x2), (0, x3)] σ = qG L xs d CJ1_indexOfChar_4cfef 0 [(2, 1018), (0, x1), (0, x2), (0, x3), (9, 0), (9, 0)] [] σ := rfl
theorem b_J1_indexOfChar_4cfef_8_0 (x1 : Int) (x2 : Int) (x3 : Int) : qG L xs d CJ1_indexOfChar_4cfef 0 [(2, 1018), (0, x1), (0, x2), (0, x3), (9, 0), (9, 0)] [] (qS v) = qG L xs d CJ1_indexOfChar_4cfef 7 [(2, 1018), (0, x1), (0, x2), (0, x3), (0, w8 x1), (0, x2)] [] (qS v) := qG_stk 5 _ _ _ _
theorem b_J1_indexOfChar_4cfef_8_7 (x1 : Int) (x2 : Int) (x3 : Int) (x4 : Int) (x5 : Int) : qG L xs d CJ1_indexOfChar_4cfef 7 [(2, 1018), (0, x1), (0, x2), (0, x3), (0, x4), (0, x5)] [] (qS v) = if x5 < x3 then qG L xs d CJ1_indexOfChar_4cfef 13 [(2, 1018), (0, x1), (0, x2), (0, x3), (0, x4), (0, x5)] [] (qS v) else qG L xs d CJ1_indexOfChar_4cfef 31 [(2, 1018), (0, x1), (0, x2), (0, x3), (0, x4), (0, x5)] [] (qS v) := (qG_stk 3 _ _ _ _).trans qG_if
theorem b_J1_indexOfChar_4cfef_8_13 (x1 : Int) (x2 : Int) (x3 : Int) (x4 : Int) (x5 : Int) : qG L xs d CJ1_indexOfChar_4cfef 13 [(2, 1018), (0, x1), (0, x2), (0, x3), (0, x4), (0, x5)] [] (qS v) = if 0 ≤ x5 ∧ x5 < 1 then qG L xs d CJ1_indexOfChar_4cfef 17 [(2, 1018), (0, x1), (0, x2), (0, x3), (0, x4), (0, x5)] [(0, pm_lof [63] (Int.toNat x5))] (qS v) else none := (qG_stk 2 _ _ _ _).trans (qG_ald (n := 1) (t := 0) (f := pm_lof [63]) rfl rfl)
theorem b_J1_indexOfChar_4cfef_8_17 (x1 : Int) (x2 : Int) (x3 : Int) (x4 : Int) (x5 : Int) (y0 : Int) : qG L xs d CJ1_indexOfChar_4cfef 17 [(2, 1018), (0, x1), (0, x2), (0, x3), (0, x4), (0, x5)] [(0, y0)] (qS v) = if y0 = x4 then qG L xs d CJ1_indexOfChar_4cfef 22 [(2, 1018), (0, x1), (0, x2), (0, x3), (0, x4), (0, x5)] [] (qS v) else qG L xs d CJ1_indexOfChar_4cfef 25 [(2, 1018), (0, x1), (0, x2), (0, x3), (0, x4), (0, x5)] [] (qS v) := (qG_stk 2 _ _ _ _).trans qG_if
theorem b_J1_indexOfChar_4cfef_8_22 (x1 : Int) (x2 : Int) (x3 : Int) (x4 : Int) (x5 : Int) : qG L xs d CJ1_indexOfChar_4cfef 22 [(2, 1018), (0, x1), (0, x2), (0, x3), (0, x4), (0, x5)] [] (qS v) = some (some (0, x5), qS v) := qG_stk 2 _ _ _ _
theorem b_J1_indexOfChar_4cfef_8_25 (x1 : Int) (x2 : Int) (x3 : Int) (x4 : Int) (x5 : Int) : qG L xs d CJ1_indexOfChar_4cfef 25 [(2, 1018), (0, x1), (0, x2), (0, x3), (0, x4), (0, x5)] [] (qS v) = qG L xs d CJ1_indexOfChar_4cfef 7 [(2, 1018), (0, x1), (0, x2), (0, x3), (0, x4), (0, w32 (x5 + 1))] [] (qS v) := qG_stk 2 _ _ _ _
theorem b_J1_indexOfChar_4cfef_8_31 (x1 : Int) (x2 : Int) (x3 : Int) (x4 : Int) (x5 : Int) : qG L xs d CJ1_indexOfChar_4cfef 31 [(2, 1018), (0, x1), (0, x2), (0, x3), (0, x4), (0, x5)] [] (qS v) = some (some (0, (-1)), qS v) := qG_stk 2 _ _ _ _
theorem e_J0_coder_7d493_9 (σ : pm_S) : qE L xs (d + 1) nJ0_coder_7d493 [(2, 2009)] σ = qG L xs d CJ0_coder_7d493 0 [(2, 2009)] [] σ := rfl
theorem b_J0_coder_7d493_9_0 : qG L xs d CJ0_coder_7d493 0 [(2, 2009)] [] (qS v) = qG L xs d CJ0_coder_7d493 6 [(2, 2009)] [] (qS v) := qG_stk 2 _ _ _ _
theorem b_J0_coder_7d493_9_6 : qG L xs d CJ0_coder_7d493 6 [(2, 2009)] [] (qS v) = qG L xs d CJ0_coder_7d493 14 [(2, 2009)] [(0, 0)] (qS v) := qG_stk 3 _ _ _ _
theorem e_J0_isLatin1_aae02_9 (σ : pm_S) : qE L xs (d + 1) nJ0_isLatin1_aae02 [(2, 2009)] σ = qG L xs d CJ0_isLatin1_aae02 0 [(2, 2009)] [] σ := rfl
theorem b_J0_isLatin1_aae02_9_0 : qG L xs d CJ0_isLatin1_aae02 0 [(2, 2009)] [] (qS v) = qG L xs d CJ0_isLatin1_aae02 6 [(2, 2009)] [] (qS v) := qG_stk 2 _ _ _ _
theorem b_J0_isLatin1_aae02_9_6 : qG L xs d CJ0_isLatin1_aae02 6 [(2, 2009)] [] (qS v) = qG L xs d CJ0_isLatin1_aae02 13 [(2, 2009)] [] (qS v) := qG_stk 3 _ _ _ _
theorem b_J0_isLatin1_aae02_9_13 : qG L xs d CJ0_isLatin1_aae02 13 [(2, 2009)] [] (qS v) = qG L xs d CJ0_isLatin1_aae02 18 [(2, 2009)] [(0, 1)] (qS v) := qG_stk 2 _ _ _ _
theorem b_J0_isLatin1_aae02_9_18 (y0 : Int) : qG L xs d CJ0_isLatin1_aae02 18 [(2, 2009)] [(0, y0)] (qS v) = if y0 = 0 ∨ y0 = 1 then some (some (0, y0), qS v) else none := qG_retb _ _ rfl
theorem e_J0_length_8abf5_9 (σ : pm_S) : qE L xs (d + 1) nJ0_length_8abf5 [(2, 2009)] σ = qG L xs d CJ0_length_8abf5 0 [(2, 2009)] [] σ := rfl
theorem b_J0_length_8abf5_9_0 : qG L xs d CJ0_length_8abf5 0 [(2, 2009)] [] (qS v) = qB (qE L xs d nJ0_coder_7d493 [(2, 2009)] (qS v)) (fun r σ => qG L xs d CJ0_length_8abf5 9 [(2, 2009)] (pm_psh r [(0, 1)]) σ) := (qG_stk 4 _ _ _ _).trans (qG_call (as := [(2, 2009)]) (rest := [(0, 1)]) rfl rfl rfl)
theorem b_J0_length_8abf5_9_9 (y0 : Int) (y1 : Int) : qG L xs d CJ0_length_8abf5 9 [(2, 2009)] [(0, y1), (0, y0)] (qS v) = some (some (0, pm_shr y0 y1), qS v) := qG_stk 2 _ _ _ _
theorem e_J0_indexOf_0f7a4_9 (x1 : Int) (σ : pm_S) : qE L xs (d + 1) nJ0_indexOf_0f7a4 [(2, 2009), (0, x1)] σ = qG L xs d CJ0_indexOf_0f7a4 0 [(2, 2009), (0, x1)] [] σ := rfl
theorem b_J0_indexOf_0f7a4_9_0 (x1 : Int) : qG L xs d CJ0_indexOf_0f7a4 0 [(2, 2009), (0, x1)] [] (qS v) = qB (qE L xs d nJ0_indexOf_7cf53 [(2, 2009), (0, x1), (0, 0)] (qS v)) (fun r σ => qG L xs d CJ0_indexOf_0f7a4 6 [(2, 2009), (0, x1)] (pm_psh r []) σ) := (qG_stk 3 _ _ _ _).trans (qG_call (as := [(2, 2009), (0, x1), (0, 0)]) (rest := []) rfl rfl rfl)
theorem b_J0_indexOf_0f7a4_9_6 (x1 : Int) (y0 : Int) : qG L xs d CJ0_indexOf_0f7a4 6 [(2, 2009), (0, x1)] [(0, y0)] (qS v) = some (some (0, y0), qS v) := qG_stk 1 _ _ _ _
theorem e_J0_indexOf_7cf53_9 (x1 : Int) (x2 : Int) (σ : pm_S) : qE L xs (d + 1) nJ0_indexOf_7cf53 [(2, 2009), (0, x1), (0, x2)] σ = qG L xs d CJ0_indexOf_7cf53 0 [(2, 2009), (0, x1), (0, x2)] [] σ := rfl
theorem b_J0_indexOf_7cf53_9_0 (x1 : Int) (x2 : Int) : qG L xs d CJ0_indexOf_7cf53 0 [(2, 2009), (0, x1), (0, x2)] [] (qS v) = qB (qE L xs d nJ0_isLatin1_aae02 [(2, 2009)] (qS v)) (fun r σ => qG L xs d CJ0_indexOf_7cf53 4 [(2, 2009), (0, x1), (0, x2)] (pm_psh r []) σ) := (qG_stk 1 _ _ _ _).trans (qG_call (as := [(2, 2009)]) (rest := []) rfl rfl rfl)
theorem b_J0_indexOf_7cf53_9_4 (x1 : Int) (x2 : Int) (y0 : Int) : qG L xs d CJ0_indexOf_7cf53 4 [(2, 2009), (0, x1), (0, x2)] [(0, y0)] (qS v) = if y0 = 0 then qG L xs d CJ0_indexOf_7cf53 23 [(2, 2009), (0, x1), (0, x2)] [] (qS v) else qG L xs d CJ0_indexOf_7cf53 7 [(2, 2009), (0, x1), (0, x2)] [] (qS v) := (qG_stk 1 _ _ _ _).trans qG_if
theorem b_J0_indexOf_7cf53_9_7 (x1 : Int) (x2 : Int) : qG L xs d CJ0_indexOf_7cf53 7 [(2, 2009), (0, x1), (0, x2)] [] (qS v) = qB (qE L xs d nJ0_length_8abf5 [(2, 2009)] (qS v)) (fun r σ => qG L xs d CJ0_indexOf_7cf53 17 [(2, 2009), (0, x1), (0, x2)] (pm_psh r [(0, x2), (0, x1), (2, 1019)]) σ) := (qG_stk 5 _ _ _ _).trans (qG_call (as := [(2, 2009)]) (rest := [(0, x2), (0, x1), (2, 1019)]) rfl rfl rfl)
theorem b_J0_indexOf_7cf53_9_17 (x1 : Int) (x2 : Int) (y1 : Int) (y2 : Int) (y3 : Int) : qG L xs d CJ0_indexOf_7cf53 17 [(2, 2009), (0, x1), (0, x2)] [(0, y3), (0, y2), (0, y1), (2, 1019)] (qS v) = qB (qE L xs d nJ1_indexOf_4cfef [(2, 1019), (0, y1), (0, y2), (0, y3)] (qS v)) (fun r σ => qG L xs d CJ0_indexOf_7cf53 20 [(2, 2009), (0, x1), (0, x2)] (pm_psh r []) σ) := qG_call (as := [(2, 1019), (0, y1), (0, y2), (0, y3)]) (rest := []) rfl rfl rfl
theorem b_J0_indexOf_7cf53_9_20 (x1 : Int) (x2 : Int) (y0 : Int) : qG L xs d CJ0_indexOf_7cf53 20 [(2, 2009), (0, x1), (0, x2)] [(0, y0)] (qS v) = qG L xs d CJ0_indexOf_7cf53 36 [(2, 2009), (0, x1), (0, x2)] [(0, y0)] (qS v) := qG_stk 1 _ _ _ _
theorem b_J0_indexOf_7cf53_9_36 (x1 : Int) (x2 : Int) (y0 : Int) : qG L xs d CJ0_indexOf_7cf53 36 [(2, 2009), (0, x1), (0, x2)] [(0, y0)] (qS v) = some (some (0, y0), qS v) := qG_stk 1 _ _ _ _
theorem e_J1_indexOf_4cfef_9 (x1 : Int) (x2 : Int) (x3 : Int) (σ : pm_S) : qE L xs (d + 1) nJ1_indexOf_4cfef [(2, 1019), (0, x1), (0, x2), (0, x3)] σ = qG L xs d CJ1_indexOf_4cfef 0 [(2, 1019), (0, x1), (0, x2), (0, x3)] [] σ := rfl
theorem b_J1_indexOf_4cfef_9_0 (x1 : Int) (x2 : Int) (x3 : Int) : qG L xs d CJ1_indexOf_4cfef 0 [(2, 1019), (0, x1), (0, x2), (0, x3)] [] (qS v) = qB (qE L xs d nJ1_canEncode_9a6ad [(0, x1)] (qS v)) (fun r σ => qG L xs d CJ1_indexOf_4cfef 4 [(2, 1019), (0, x1), (0, x2), (0, x3)] (pm_psh r []) σ) := (qG_stk 1 _ _ _ _).trans (qG_call (as := [(0, x1)]) (rest := []) rfl rfl rfl)
theorem b_J1_indexOf_4cfef_9_4 (x1 : Int) (x2 : Int) (x3 : Int) (y0 : Int) : qG L xs d CJ1_indexOf_4cfef 4 [(2, 1019), (0, x1), (0, x2), (0, x3)] [(0, y0)] (qS v) = if y0 = 0 then qG L xs d CJ1_indexOf_4cfef 7 [(2, 1019), (0, x1), (0, x2), (0, x3)] [] (qS v) else qG L xs d CJ1_indexOf_4cfef 9 [(2, 1019), (0, x1), (0, x2), (0, x3)] [] (qS v) := (qG_stk 1 _ _ _ _).trans qG_if
theorem b_J1_indexOf_4cfef_9_9 (x1 : Int) (x2 : Int) (x3 : Int) : qG L xs d CJ1_indexOf_4cfef 9 [(2, 1019), (0, x1), (0, x2), (0, x3)] [] (qS v) = if pm_max x2 0 < pm_min x3 1 then qG L xs d CJ1_indexOf_4cfef 29 [(2, 1019), (0, x1), (0, pm_max x2 0), (0, pm_min x3 1)] [] (qS v) else qG L xs d CJ1_indexOf_4cfef 27 [(2, 1019), (0, x1), (0, pm_max x2 0), (0, pm_min x3 1)] [] (qS v) := (qG_stk 12 _ _ _ _).trans qG_if
theorem b_J1_indexOf_4cfef_9_29 (x1 : Int) (x2 : Int) (x3 : Int) : qG L xs d CJ1_indexOf_4cfef 29 [(2, 1019), (0, x1), (0, x2), (0, x3)] [] (qS v) = qB (qE L xs d nJ1_indexOfChar_4cfef [(2, 1019), (0, x1), (0, x2), (0, x3)] (qS v)) (fun r σ => qG L xs d CJ1_indexOf_4cfef 36 [(2, 1019), (0, x1), (0, x2), (0, x3)] (pm_psh r []) σ) := (qG_stk 4 _ _ _ _).trans (qG_call (as := [(2, 1019), (0, x1), (0, x2), (0, x3)]) (rest := []) rfl rfl rfl)
theorem b_J1_indexOf_4cfef_9_36 (x1 : Int) (x2 : Int) (x3 : Int) (y0 : Int) : qG L xs d CJ1_indexOf_4cfef 36 [(2, 1019), (0, x1), (0, x2), (0, x3)] [(0, y0)] (qS v) = some (some (0, y0), qS v) := qG_stk 1 _ _ _ _
theorem e_J1_indexOfChar_4cfef_9 (x1 : Int) (x2 : Int) (x3 : Int) (σ : pm_S) : qE L xs (d + 1) nJ1_indexOfChar_4cfef [(2, 1019), (0, x1), (0, x2), (0, x3)] σ = qG L xs d CJ1_indexOfChar_4cfef 0 [(2, 1019), (0, x1), (0, x2), (0, x3), (9, 0), (9, 0)] [] σ := rfl
theorem b_J1_indexOfChar_4cfef_9_0 (x1 : Int) (x2 : Int) (x3 : Int) : qG L xs d CJ1_indexOfChar_4cfef 0 [(2, 1019), (0, x1), (0, x2), (0, x3), (9, 0), (9, 0)] [] (qS v) = qG L xs d CJ1_indexOfChar_4cfef 7 [(2, 1019), (0, x1), (0, x2), (0, x3), (0, w8 x1), (0, x2)] [] (qS v) := qG_stk 5 _ _ _ _
theorem b_J1_indexOfChar_4cfef_9_7 (x1 : Int) (x2 : Int) (x3 : Int) (x4 : Int) (x5 : Int) : qG L xs d CJ1_indexOfChar_4cfef 7 [(2, 1019), (0, x1), (0, x2), (0, x3), (0, x4), (0, x5)] [] (qS v) = if x5 < x3 then qG L xs d CJ1_indexOfChar_4cfef 13 [(2, 1019), (0, x1), (0, x2), (0, x3), (0, x4), (0, x5)] [] (qS v) else qG L xs d CJ1_indexOfChar_4cfef 31 [(2, 1019), (0, x1), (0, x2), (0, x3), (0, x4), (0, x5)] [] (qS v) := (qG_stk 3 _ _ _ _).trans qG_if
theorem b_J1_indexOfChar_4cfef_9_13 (x1 : Int) (x2 : Int) (x3 : Int) (x4 : Int) (x5 : Int) : qG L xs d CJ1_indexOfChar_4cfef 13 [(2, 1019), (0, x1), (0, x2), (0, x3), (0, x4), (0, x5)] [] (qS v) = if 0 ≤ x5 ∧ x5 < 1 then qG L xs d CJ1_indexOfChar_4cfef 17 [(2, 1019), (0, x1), (0, x2), (0, x3), (0, x4), (0, x5)] [(0, pm_lof [59] (Int.toNat x5))] (qS v) else none := (qG_stk 2 _ _ _ _).trans (qG_ald (n := 1) (t := 0) (f := pm_lof [59]) rfl rfl)
theorem b_J1_indexOfChar_4cfef_9_17 (x1 : Int) (x2 : Int) (x3 : Int) (x4 : Int) (x5 : Int) (y0 : Int) : qG L xs d CJ1_indexOfChar_4cfef 17 [(2, 1019), (0, x1), (0, x2), (0, x3), (0, x4), (0, x5)] [(0, y0)] (qS v) = if y0 = x4 then qG L xs d CJ1_indexOfChar_4cfef 22 [(2, 1019), (0, x1), (0, x2), (0, x3), (0, x4), (0, x5)] [] (qS v) else qG L xs d CJ1_indexOfChar_4cfef 25 [(2, 1019), (0, x1), (0, x2), (0, x3), (0, x4), (0, x5)] [] (qS v) := (qG_stk 2 _ _ _ _).trans qG_if
theorem b_J1_indexOfChar_4cfef_9_22 (x1 : Int) (x2 : Int) (x3 : Int) (x4 : Int) (x5 : Int) : qG L xs d CJ1_indexOfChar_4cfef 22 [(2, 1019), (0, x1), (0, x2), (0, x3), (0, x4), (0, x5)] [] (qS v) = some (some (0, x5), qS v) := qG_stk 2 _ _ _ _
theorem b_J1_indexOfChar_4cfef_9_25 (x1 : Int) (x2 : Int) (x3 : Int) (x4 : Int) (x5 : Int) : qG L xs d CJ1_indexOfChar_4cfef 25 [(2, 1019), (0, x1), (0, x2), (0, x3), (0, x4), (0, x5)] [] (qS v) = qG L xs d CJ1_indexOfChar_4cfef 7 [(2, 1019), (0, x1), (0, x2), (0, x3), (0, x4), (0, w32 (x5 + 1))] [] (qS v) := qG_stk 2 _ _ _ _
theorem b_J1_indexOfChar_4cfef_9_31 (x1 : Int) (x2 : Int) (x3 : Int) (x4 : Int) (x5 : Int) : qG L xs d CJ1_indexOfChar_4cfef 31 [(2, 1019), (0, x1), (0, x2), (0, x3), (0, x4), (0, x5)] [] (qS v) = some (some (0, (-1)), qS v) := qG_stk 2 _ _ _ _
theorem b_J0_coder_7d493_0_14 : qG L xs d CJ0_coder_7d493 14 [(2, 2000)] [(0, 0)] (qS v) = some (some (0, 0), qS v) := qG_stk 1 _ _ _ _
theorem jl_0 (x1 x2 y : Int) : qG L xs d CJ1_indexOfChar_4cfef 7 [(2, 1010), (0, x1), (0, x2), (0, 6), (0, y), (0, 0)] [] (qS v) = some (some (0, if 116 = y then 0 else if 119 = y then 1 else if 111 = y then 2 else if 115 = y then 3 else if 121 = y then 4 else if 100 = y then 5 else -1), qS v) := by
  rw [b_J1_indexOfChar_4cfef_0_7, if_pos (by decide), b_J1_indexOfChar_4cfef_0_13, if_pos (by decide), show pm_lof [116, 119, 111, 115, 121, 100] (Int.toNat 0) = 116 from rfl, b_J1_indexOfChar_4cfef_0_17]
  by_cases h0 : 116 = y
  · rw [if_pos h0, if_pos h0, b_J1_indexOfChar_4cfef_0_22]
  · rw [if_neg h0, if_neg h0, b_J1_indexOfChar_4cfef_0_25, show w32 (0 + 1) = 1 from rfl]
    rw [b_J1_indexOfChar_4cfef_0_7, if_pos (by decide), b_J1_indexOfChar_4cfef_0_13, if_pos (by decide), show pm_lof [116, 119, 111, 115, 121, 100] (Int.toNat 1) = 119 from rfl, b_J1_indexOfChar_4cfef_0_17]
    by_cases h1 : 119 = y
    · rw [if_pos h1, if_pos h1, b_J1_indexOfChar_4cfef_0_22]
    · rw [if_neg h1, if_neg h1, b_J1_indexOfChar_4cfef_0_25, show w32 (1 + 1) = 2 from rfl]
      rw [b_J1_indexOfChar_4cfef_0_7, if_pos (by decide), b_J1_indexOfChar_4cfef_0_13, if_pos (by decide), show pm_lof [116, 119, 111, 115, 121, 100] (Int.toNat 2) = 111 from rfl, b_J1_indexOfChar_4cfef_0_17]
      by_cases h2 : 111 = y
      · rw [if_pos h2, if_pos h2, b_J1_indexOfChar_4cfef_0_22]
      · rw [if_neg h2, if_neg h2, b_J1_indexOfChar_4cfef_0_25, show w32 (2 + 1) = 3 from rfl]
        rw [b_J1_indexOfChar_4cfef_0_7, if_pos (by decide), b_J1_indexOfChar_4cfef_0_13, if_pos (by decide), show pm_lof [116, 119, 111, 115, 121, 100] (Int.toNat 3) = 115 from rfl, b_J1_indexOfChar_4cfef_0_17]
        by_cases h3 : 115 = y
        · rw [if_pos h3, if_pos h3, b_J1_indexOfChar_4cfef_0_22]
        · rw [if_neg h3, if_neg h3, b_J1_indexOfChar_4cfef_0_25, show w32 (3 + 1) = 4 from rfl]
          rw [b_J1_indexOfChar_4cfef_0_7, if_pos (by decide), b_J1_indexOfChar_4cfef_0_13, if_pos (by decide), show pm_lof [116, 119, 111, 115, 121, 100] (Int.toNat 4) = 121 from rfl, b_J1_indexOfChar_4cfef_0_17]
          by_cases h4 : 121 = y
          · rw [if_pos h4, if_pos h4, b_J1_indexOfChar_4cfef_0_22]
          · rw [if_neg h4, if_neg h4, b_J1_indexOfChar_4cfef_0_25, show w32 (4 + 1) = 5 from rfl]
            rw [b_J1_indexOfChar_4cfef_0_7, if_pos (by decide), b_J1_indexOfChar_4cfef_0_13, if_pos (by decide), show pm_lof [116, 119, 111, 115, 121, 100] (Int.toNat 5) = 100 from rfl, b_J1_indexOfChar_4cfef_0_17]
            by_cases h5 : 100 = y
            · rw [if_pos h5, if_pos h5, b_J1_indexOfChar_4cfef_0_22]
            · rw [if_neg h5, if_neg h5, b_J1_indexOfChar_4cfef_0_25, show w32 (5 + 1) = 6 from rfl]
              rw [b_J1_indexOfChar_4cfef_0_7, if_neg (by decide), b_J1_indexOfChar_4cfef_0_31]
theorem jx_0 (c : Int) (h0 : 0 ≤ c) (h1 : c ≤ 255) : qE L xs (d + 4) nJ0_indexOf_0f7a4 [(2, 2000), (0, c)] (qS v) = some (some (0, if 116 = w8 c then 0 else if 119 = w8 c then 1 else if 111 = w8 c then 2 else if 115 = w8 c then 3 else if 121 = w8 c then 4 else if 100 = w8 c then 5 else -1), qS v) := by
  have l1 : qE L xs (d + 2) nJ0_length_8abf5 [(2, 2000)] (qS v) = some (some (0, 6), qS v) := by
    rw [e_J0_length_8abf5_0, b_J0_length_8abf5_0_0, e_J0_coder_7d493_0, b_J0_coder_7d493_0_0, b_J0_coder_7d493_0_6, b_J0_coder_7d493_0_14, qB_some, psh_some, b_J0_length_8abf5_0_9, show pm_shr 6 0 = 6 from by decide]
  have l2 : qE L xs (d + 2) nJ0_isLatin1_aae02 [(2, 2000)] (qS v) = some (some (0, 1), qS v) := by
    rw [e_J0_isLatin1_aae02_0, b_J0_isLatin1_aae02_0_0, b_J0_isLatin1_aae02_0_6, b_J0_isLatin1_aae02_0_13, b_J0_isLatin1_aae02_0_18, if_pos (Or.inr rfl)]
  have l3 : qE L xs (d + 1) nJ1_canEncode_9a6ad [(0, c)] (qS v) = some (some (0, 1), qS v) := by
    rw [e_J1_canEncode_9a6ad, b_J1_canEncode_9a6ad_0, if_neg (by omega), b_J1_canEncode_9a6ad_4, if_neg (by omega), b_J1_canEncode_9a6ad_11, b_J1_canEncode_9a6ad_16, if_pos (Or.inr rfl)]
  rw [e_J0_indexOf_0f7a4_0, b_J0_indexOf_0f7a4_0_0, e_J0_indexOf_7cf53_0, b_J0_indexOf_7cf53_0_0, l2, qB_some, psh_some, b_J0_indexOf_7cf53_0_4, if_neg (by decide), b_J0_indexOf_7cf53_0_7, l1, qB_some, psh_some, b_J0_indexOf_7cf53_0_17, e_J1_indexOf_4cfef_0, b_J1_indexOf_4cfef_0_0, l3, qB_some, psh_some, b_J1_indexOf_4cfef_0_4, if_neg (by decide), b_J1_indexOf_4cfef_0_9, show pm_max 0 0 = 0 from rfl, show pm_min 6 6 = 6 from rfl, if_pos (by decide), b_J1_indexOf_4cfef_0_29, e_J1_indexOfChar_4cfef_0, b_J1_indexOfChar_4cfef_0_0, jl_0, qB_some, psh_some, b_J1_indexOf_4cfef_0_36, qB_some, psh_some, b_J0_indexOf_7cf53_0_20, b_J0_indexOf_7cf53_0_36, qB_some, psh_some, b_J0_indexOf_0f7a4_0_6]
theorem jn_0 (c : Int) (h0 : 0 ≤ c) (h1 : c ≤ 255) : (if 116 = w8 c then 0 else if 119 = w8 c then 1 else if 111 = w8 c then 2 else if 115 = w8 c then 3 else if 121 = w8 c then 4 else if 100 = w8 c then 5 else -1) = nmI c := by
  unfold nmI w8
  by_cases h0 : c = 116
  · rw [if_pos h0, if_pos (by omega)]
  · rw [if_neg h0, if_neg (by omega)]
    by_cases h1 : c = 119
    · rw [if_pos h1, if_pos (by omega)]
    · rw [if_neg h1, if_neg (by omega)]
      by_cases h2 : c = 111
      · rw [if_pos h2, if_pos (by omega)]
      · rw [if_neg h2, if_neg (by omega)]
        by_cases h3 : c = 115
        · rw [if_pos h3, if_pos (by omega)]
        · rw [if_neg h3, if_neg (by omega)]
          by_cases h4 : c = 121
          · rw [if_pos h4, if_pos (by omega)]
          · rw [if_neg h4, if_neg (by omega)]
            by_cases h5 : c = 100
            · rw [if_pos h5, if_pos (by omega)]
            · rw [if_neg h5, if_neg (by omega)]
theorem jt_0 (c : Int) (h0 : 0 ≤ c) (h1 : c ≤ 255) : (if 116 = w8 c then 0 else if 119 = w8 c then 1 else if 111 = w8 c then 2 else if 115 = w8 c then 3 else if 121 = w8 c then 4 else if 100 = w8 c then 5 else -1) < (0 : Int) ↔ ¬ (0 ≤ nmI c) := by
  rw [jn_0 c h0 h1]
  omega
theorem b_X5_skip_29_0 (y : Int) : qG L xs d CX5_skip 29 [(2, 23), (2, 2000)] [(0, y), (2, 2000)] (qS v) = qB (qE L xs d nJ0_indexOf_0f7a4 [(2, 2000), (0, y)] (qS v)) (fun r σ => qG L xs d CX5_skip 32 [(2, 23), (2, 2000)] (pm_psh r []) σ) := qG_call (as := [(2, 2000), (0, y)]) (rest := []) rfl rfl rfl
theorem b_J0_coder_7d493_1_14 : qG L xs d CJ0_coder_7d493 14 [(2, 2001)] [(0, 0)] (qS v) = some (some (0, 0), qS v) := qG_stk 1 _ _ _ _
theorem jl_1 (x1 x2 y : Int) : qG L xs d CJ1_indexOfChar_4cfef 7 [(2, 1011), (0, x1), (0, x2), (0, 3), (0, y), (0, 0)] [] (qS v) = some (some (0, if 40 = y then 0 else if 33 = y then 1 else if 45 = y then 2 else -1), qS v) := by
  rw [b_J1_indexOfChar_4cfef_1_7, if_pos (by decide), b_J1_indexOfChar_4cfef_1_13, if_pos (by decide), show pm_lof [40, 33, 45] (Int.toNat 0) = 40 from rfl, b_J1_indexOfChar_4cfef_1_17]
  by_cases h0 : 40 = y
  · rw [if_pos h0, if_pos h0, b_J1_indexOfChar_4cfef_1_22]
  · rw [if_neg h0, if_neg h0, b_J1_indexOfChar_4cfef_1_25, show w32 (0 + 1) = 1 from rfl]
    rw [b_J1_indexOfChar_4cfef_1_7, if_pos (by decide), b_J1_indexOfChar_4cfef_1_13, if_pos (by decide), show pm_lof [40, 33, 45] (Int.toNat 1) = 33 from rfl, b_J1_indexOfChar_4cfef_1_17]
    by_cases h1 : 33 = y
    · rw [if_pos h1, if_pos h1, b_J1_indexOfChar_4cfef_1_22]
    · rw [if_neg h1, if_neg h1, b_J1_indexOfChar_4cfef_1_25, show w32 (1 + 1) = 2 from rfl]
      rw [b_J1_indexOfChar_4cfef_1_7, if_pos (by decide), b_J1_indexOfChar_4cfef_1_13, if_pos (by decide), show pm_lof [40, 33, 45] (Int.toNat 2) = 45 from rfl, b_J1_indexOfChar_4cfef_1_17]
      by_cases h2 : 45 = y
      · rw [if_pos h2, if_pos h2, b_J1_indexOfChar_4cfef_1_22]
      · rw [if_neg h2, if_neg h2, b_J1_indexOfChar_4cfef_1_25, show w32 (2 + 1) = 3 from rfl]
        rw [b_J1_indexOfChar_4cfef_1_7, if_neg (by decide), b_J1_indexOfChar_4cfef_1_31]
theorem jx_1 (c : Int) (h0 : 0 ≤ c) (h1 : c ≤ 255) : qE L xs (d + 4) nJ0_indexOf_0f7a4 [(2, 2001), (0, c)] (qS v) = some (some (0, if 40 = w8 c then 0 else if 33 = w8 c then 1 else if 45 = w8 c then 2 else -1), qS v) := by
  have l1 : qE L xs (d + 2) nJ0_length_8abf5 [(2, 2001)] (qS v) = some (some (0, 3), qS v) := by
    rw [e_J0_length_8abf5_1, b_J0_length_8abf5_1_0, e_J0_coder_7d493_1, b_J0_coder_7d493_1_0, b_J0_coder_7d493_1_6, b_J0_coder_7d493_1_14, qB_some, psh_some, b_J0_length_8abf5_1_9, show pm_shr 3 0 = 3 from by decide]
  have l2 : qE L xs (d + 2) nJ0_isLatin1_aae02 [(2, 2001)] (qS v) = some (some (0, 1), qS v) := by
    rw [e_J0_isLatin1_aae02_1, b_J0_isLatin1_aae02_1_0, b_J0_isLatin1_aae02_1_6, b_J0_isLatin1_aae02_1_13, b_J0_isLatin1_aae02_1_18, if_pos (Or.inr rfl)]
  have l3 : qE L xs (d + 1) nJ1_canEncode_9a6ad [(0, c)] (qS v) = some (some (0, 1), qS v) := by
    rw [e_J1_canEncode_9a6ad, b_J1_canEncode_9a6ad_0, if_neg (by omega), b_J1_canEncode_9a6ad_4, if_neg (by omega), b_J1_canEncode_9a6ad_11, b_J1_canEncode_9a6ad_16, if_pos (Or.inr rfl)]
  rw [e_J0_indexOf_0f7a4_1, b_J0_indexOf_0f7a4_1_0, e_J0_indexOf_7cf53_1, b_J0_indexOf_7cf53_1_0, l2, qB_some, psh_some, b_J0_indexOf_7cf53_1_4, if_neg (by decide), b_J0_indexOf_7cf53_1_7, l1, qB_some, psh_some, b_J0_indexOf_7cf53_1_17, e_J1_indexOf_4cfef_1, b_J1_indexOf_4cfef_1_0, l3, qB_some, psh_some, b_J1_indexOf_4cfef_1_4, if_neg (by decide), b_J1_indexOf_4cfef_1_9, show pm_max 0 0 = 0 from rfl, show pm_min 3 3 = 3 from rfl, if_pos (by decide), b_J1_indexOf_4cfef_1_29, e_J1_indexOfChar_4cfef_1, b_J1_indexOfChar_4cfef_1_0, jl_1, qB_some, psh_some, b_J1_indexOf_4cfef_1_36, qB_some, psh_some, b_J0_indexOf_7cf53_1_20, b_J0_indexOf_7cf53_1_36, qB_some, psh_some, b_J0_indexOf_0f7a4_1_6]
theorem jt_1 (c : Int) (h0 : 0 ≤ c) (h1 : c ≤ 255) : (if 40 = w8 c then 0 else if 33 = w8 c then 1 else if 45 = w8 c then 2 else -1) < (0 : Int) ↔ ¬ (c = 40 ∨ c = 33 ∨ c = 45) := by
  unfold w8
  by_cases h0 : c = 40
  · rw [if_pos (by omega)]
    omega
  · rw [if_neg (by omega)]
    by_cases h1 : c = 33
    · rw [if_pos (by omega)]
      omega
    · rw [if_neg (by omega)]
      by_cases h2 : c = 45
      · rw [if_pos (by omega)]
        omega
      · rw [if_neg (by omega)]
        omega
theorem b_X5_skip_29_1 (y : Int) : qG L xs d CX5_skip 29 [(2, 23), (2, 2001)] [(0, y), (2, 2001)] (qS v) = qB (qE L xs d nJ0_indexOf_0f7a4 [(2, 2001), (0, y)] (qS v)) (fun r σ => qG L xs d CX5_skip 32 [(2, 23), (2, 2001)] (pm_psh r []) σ) := qG_call (as := [(2, 2001), (0, y)]) (rest := []) rfl rfl rfl
theorem b_J0_coder_7d493_2_14 : qG L xs d CJ0_coder_7d493 14 [(2, 2002)] [(0, 0)] (qS v) = some (some (0, 0), qS v) := qG_stk 1 _ _ _ _
theorem jl_2 (x1 x2 y : Int) : qG L xs d CJ1_indexOfChar_4cfef 7 [(2, 1012), (0, x1), (0, x2), (0, 1), (0, y), (0, 0)] [] (qS v) = some (some (0, if 41 = y then 0 else -1), qS v) := by
  rw [b_J1_indexOfChar_4cfef_2_7, if_pos (by decide), b_J1_indexOfChar_4cfef_2_13, if_pos (by decide), show pm_lof [41] (Int.toNat 0) = 41 from rfl, b_J1_indexOfChar_4cfef_2_17]
  by_cases h0 : 41 = y
  · rw [if_pos h0, if_pos h0, b_J1_indexOfChar_4cfef_2_22]
  · rw [if_neg h0, if_neg h0, b_J1_indexOfChar_4cfef_2_25, show w32 (0 + 1) = 1 from rfl]
    rw [b_J1_indexOfChar_4cfef_2_7, if_neg (by decide), b_J1_indexOfChar_4cfef_2_31]
theorem jx_2 (c : Int) (h0 : 0 ≤ c) (h1 : c ≤ 255) : qE L xs (d + 4) nJ0_indexOf_0f7a4 [(2, 2002), (0, c)] (qS v) = some (some (0, if 41 = w8 c then 0 else -1), qS v) := by
  have l1 : qE L xs (d + 2) nJ0_length_8abf5 [(2, 2002)] (qS v) = some (some (0, 1), qS v) := by
    rw [e_J0_length_8abf5_2, b_J0_length_8abf5_2_0, e_J0_coder_7d493_2, b_J0_coder_7d493_2_0, b_J0_coder_7d493_2_6, b_J0_coder_7d493_2_14, qB_some, psh_some, b_J0_length_8abf5_2_9, show pm_shr 1 0 = 1 from by decide]
  have l2 : qE L xs (d + 2) nJ0_isLatin1_aae02 [(2, 2002)] (qS v) = some (some (0, 1), qS v) := by
    rw [e_J0_isLatin1_aae02_2, b_J0_isLatin1_aae02_2_0, b_J0_isLatin1_aae02_2_6, b_J0_isLatin1_aae02_2_13, b_J0_isLatin1_aae02_2_18, if_pos (Or.inr rfl)]
  have l3 : qE L xs (d + 1) nJ1_canEncode_9a6ad [(0, c)] (qS v) = some (some (0, 1), qS v) := by
    rw [e_J1_canEncode_9a6ad, b_J1_canEncode_9a6ad_0, if_neg (by omega), b_J1_canEncode_9a6ad_4, if_neg (by omega), b_J1_canEncode_9a6ad_11, b_J1_canEncode_9a6ad_16, if_pos (Or.inr rfl)]
  rw [e_J0_indexOf_0f7a4_2, b_J0_indexOf_0f7a4_2_0, e_J0_indexOf_7cf53_2, b_J0_indexOf_7cf53_2_0, l2, qB_some, psh_some, b_J0_indexOf_7cf53_2_4, if_neg (by decide), b_J0_indexOf_7cf53_2_7, l1, qB_some, psh_some, b_J0_indexOf_7cf53_2_17, e_J1_indexOf_4cfef_2, b_J1_indexOf_4cfef_2_0, l3, qB_some, psh_some, b_J1_indexOf_4cfef_2_4, if_neg (by decide), b_J1_indexOf_4cfef_2_9, show pm_max 0 0 = 0 from rfl, show pm_min 1 1 = 1 from rfl, if_pos (by decide), b_J1_indexOf_4cfef_2_29, e_J1_indexOfChar_4cfef_2, b_J1_indexOfChar_4cfef_2_0, jl_2, qB_some, psh_some, b_J1_indexOf_4cfef_2_36, qB_some, psh_some, b_J0_indexOf_7cf53_2_20, b_J0_indexOf_7cf53_2_36, qB_some, psh_some, b_J0_indexOf_0f7a4_2_6]
theorem jt_2 (c : Int) (h0 : 0 ≤ c) (h1 : c ≤ 255) : (if 41 = w8 c then 0 else -1) < (0 : Int) ↔ ¬ (c = 41) := by
  unfold w8
  by_cases h0 : c = 41
  · rw [if_pos (by omega)]
    omega
  · rw [if_neg (by omega)]
    omega
theorem b_X5_skip_29_2 (y : Int) : qG L xs d CX5_skip 29 [(2, 23), (2, 2002)] [(0, y), (2, 2002)] (qS v) = qB (qE L xs d nJ0_indexOf_0f7a4 [(2, 2002), (0, y)] (qS v)) (fun r σ => qG L xs d CX5_skip 32 [(2, 23), (2, 2002)] (pm_psh r []) σ) := qG_call (as := [(2, 2002), (0, y)]) (rest := []) rfl rfl rfl
theorem b_J0_coder_7d493_3_14 : qG L xs d CJ0_coder_7d493 14 [(2, 2003)] [(0, 0)] (qS v) = some (some (0, 0), qS v) := qG_stk 1 _ _ _ _
theorem jl_3 (x1 x2 y : Int) : qG L xs d CJ1_indexOfChar_4cfef 7 [(2, 1013), (0, x1), (0, x2), (0, 1), (0, y), (0, 0)] [] (qS v) = some (some (0, if 124 = y then 0 else -1), qS v) := by
  rw [b_J1_indexOfChar_4cfef_3_7, if_pos (by decide), b_J1_indexOfChar_4cfef_3_13, if_pos (by decide), show pm_lof [124] (Int.toNat 0) = 124 from rfl, b_J1_indexOfChar_4cfef_3_17]
  by_cases h0 : 124 = y
  · rw [if_pos h0, if_pos h0, b_J1_indexOfChar_4cfef_3_22]
  · rw [if_neg h0, if_neg h0, b_J1_indexOfChar_4cfef_3_25, show w32 (0 + 1) = 1 from rfl]
    rw [b_J1_indexOfChar_4cfef_3_7, if_neg (by decide), b_J1_indexOfChar_4cfef_3_31]
theorem jx_3 (c : Int) (h0 : 0 ≤ c) (h1 : c ≤ 255) : qE L xs (d + 4) nJ0_indexOf_0f7a4 [(2, 2003), (0, c)] (qS v) = some (some (0, if 124 = w8 c then 0 else -1), qS v) := by
  have l1 : qE L xs (d + 2) nJ0_length_8abf5 [(2, 2003)] (qS v) = some (some (0, 1), qS v) := by
    rw [e_J0_length_8abf5_3, b_J0_length_8abf5_3_0, e_J0_coder_7d493_3, b_J0_coder_7d493_3_0, b_J0_coder_7d493_3_6, b_J0_coder_7d493_3_14, qB_some, psh_some, b_J0_length_8abf5_3_9, show pm_shr 1 0 = 1 from by decide]
  have l2 : qE L xs (d + 2) nJ0_isLatin1_aae02 [(2, 2003)] (qS v) = some (some (0, 1), qS v) := by
    rw [e_J0_isLatin1_aae02_3, b_J0_isLatin1_aae02_3_0, b_J0_isLatin1_aae02_3_6, b_J0_isLatin1_aae02_3_13, b_J0_isLatin1_aae02_3_18, if_pos (Or.inr rfl)]
  have l3 : qE L xs (d + 1) nJ1_canEncode_9a6ad [(0, c)] (qS v) = some (some (0, 1), qS v) := by
    rw [e_J1_canEncode_9a6ad, b_J1_canEncode_9a6ad_0, if_neg (by omega), b_J1_canEncode_9a6ad_4, if_neg (by omega), b_J1_canEncode_9a6ad_11, b_J1_canEncode_9a6ad_16, if_pos (Or.inr rfl)]
  rw [e_J0_indexOf_0f7a4_3, b_J0_indexOf_0f7a4_3_0, e_J0_indexOf_7cf53_3, b_J0_indexOf_7cf53_3_0, l2, qB_some, psh_some, b_J0_indexOf_7cf53_3_4, if_neg (by decide), b_J0_indexOf_7cf53_3_7, l1, qB_some, psh_some, b_J0_indexOf_7cf53_3_17, e_J1_indexOf_4cfef_3, b_J1_indexOf_4cfef_3_0, l3, qB_some, psh_some, b_J1_indexOf_4cfef_3_4, if_neg (by decide), b_J1_indexOf_4cfef_3_9, show pm_max 0 0 = 0 from rfl, show pm_min 1 1 = 1 from rfl, if_pos (by decide), b_J1_indexOf_4cfef_3_29, e_J1_indexOfChar_4cfef_3, b_J1_indexOfChar_4cfef_3_0, jl_3, qB_some, psh_some, b_J1_indexOf_4cfef_3_36, qB_some, psh_some, b_J0_indexOf_7cf53_3_20, b_J0_indexOf_7cf53_3_36, qB_some, psh_some, b_J0_indexOf_0f7a4_3_6]
theorem jt_3 (c : Int) (h0 : 0 ≤ c) (h1 : c ≤ 255) : (if 124 = w8 c then 0 else -1) < (0 : Int) ↔ ¬ (sgn 0 c) := by
  unfold w8 sgn
  by_cases h0 : c = 124
  · rw [if_pos (by omega)]
    omega
  · rw [if_neg (by omega)]
    omega
theorem b_X5_skip_29_3 (y : Int) : qG L xs d CX5_skip 29 [(2, 23), (2, 2003)] [(0, y), (2, 2003)] (qS v) = qB (qE L xs d nJ0_indexOf_0f7a4 [(2, 2003), (0, y)] (qS v)) (fun r σ => qG L xs d CX5_skip 32 [(2, 23), (2, 2003)] (pm_psh r []) σ) := qG_call (as := [(2, 2003), (0, y)]) (rest := []) rfl rfl rfl
theorem b_J0_coder_7d493_4_14 : qG L xs d CJ0_coder_7d493 14 [(2, 2004)] [(0, 0)] (qS v) = some (some (0, 0), qS v) := qG_stk 1 _ _ _ _
theorem jl_4 (x1 x2 y : Int) : qG L xs d CJ1_indexOfChar_4cfef 7 [(2, 1014), (0, x1), (0, x2), (0, 1), (0, y), (0, 0)] [] (qS v) = some (some (0, if 38 = y then 0 else -1), qS v) := by
  rw [b_J1_indexOfChar_4cfef_4_7, if_pos (by decide), b_J1_indexOfChar_4cfef_4_13, if_pos (by decide), show pm_lof [38] (Int.toNat 0) = 38 from rfl, b_J1_indexOfChar_4cfef_4_17]
  by_cases h0 : 38 = y
  · rw [if_pos h0, if_pos h0, b_J1_indexOfChar_4cfef_4_22]
  · rw [if_neg h0, if_neg h0, b_J1_indexOfChar_4cfef_4_25, show w32 (0 + 1) = 1 from rfl]
    rw [b_J1_indexOfChar_4cfef_4_7, if_neg (by decide), b_J1_indexOfChar_4cfef_4_31]
theorem jx_4 (c : Int) (h0 : 0 ≤ c) (h1 : c ≤ 255) : qE L xs (d + 4) nJ0_indexOf_0f7a4 [(2, 2004), (0, c)] (qS v) = some (some (0, if 38 = w8 c then 0 else -1), qS v) := by
  have l1 : qE L xs (d + 2) nJ0_length_8abf5 [(2, 2004)] (qS v) = some (some (0, 1), qS v) := by
    rw [e_J0_length_8abf5_4, b_J0_length_8abf5_4_0, e_J0_coder_7d493_4, b_J0_coder_7d493_4_0, b_J0_coder_7d493_4_6, b_J0_coder_7d493_4_14, qB_some, psh_some, b_J0_length_8abf5_4_9, show pm_shr 1 0 = 1 from by decide]
  have l2 : qE L xs (d + 2) nJ0_isLatin1_aae02 [(2, 2004)] (qS v) = some (some (0, 1), qS v) := by
    rw [e_J0_isLatin1_aae02_4, b_J0_isLatin1_aae02_4_0, b_J0_isLatin1_aae02_4_6, b_J0_isLatin1_aae02_4_13, b_J0_isLatin1_aae02_4_18, if_pos (Or.inr rfl)]
  have l3 : qE L xs (d + 1) nJ1_canEncode_9a6ad [(0, c)] (qS v) = some (some (0, 1), qS v) := by
    rw [e_J1_canEncode_9a6ad, b_J1_canEncode_9a6ad_0, if_neg (by omega), b_J1_canEncode_9a6ad_4, if_neg (by omega), b_J1_canEncode_9a6ad_11, b_J1_canEncode_9a6ad_16, if_pos (Or.inr rfl)]
  rw [e_J0_indexOf_0f7a4_4, b_J0_indexOf_0f7a4_4_0, e_J0_indexOf_7cf53_4, b_J0_indexOf_7cf53_4_0, l2, qB_some, psh_some, b_J0_indexOf_7cf53_4_4, if_neg (by decide), b_J0_indexOf_7cf53_4_7, l1, qB_some, psh_some, b_J0_indexOf_7cf53_4_17, e_J1_indexOf_4cfef_4, b_J1_indexOf_4cfef_4_0, l3, qB_some, psh_some, b_J1_indexOf_4cfef_4_4, if_neg (by decide), b_J1_indexOf_4cfef_4_9, show pm_max 0 0 = 0 from rfl, show pm_min 1 1 = 1 from rfl, if_pos (by decide), b_J1_indexOf_4cfef_4_29, e_J1_indexOfChar_4cfef_4, b_J1_indexOfChar_4cfef_4_0, jl_4, qB_some, psh_some, b_J1_indexOf_4cfef_4_36, qB_some, psh_some, b_J0_indexOf_7cf53_4_20, b_J0_indexOf_7cf53_4_36, qB_some, psh_some, b_J0_indexOf_0f7a4_4_6]
theorem jt_4 (c : Int) (h0 : 0 ≤ c) (h1 : c ≤ 255) : (if 38 = w8 c then 0 else -1) < (0 : Int) ↔ ¬ (sgn 1 c) := by
  unfold w8 sgn
  by_cases h0 : c = 38
  · rw [if_pos (by omega)]
    omega
  · rw [if_neg (by omega)]
    omega
theorem b_X5_skip_29_4 (y : Int) : qG L xs d CX5_skip 29 [(2, 23), (2, 2004)] [(0, y), (2, 2004)] (qS v) = qB (qE L xs d nJ0_indexOf_0f7a4 [(2, 2004), (0, y)] (qS v)) (fun r σ => qG L xs d CX5_skip 32 [(2, 23), (2, 2004)] (pm_psh r []) σ) := qG_call (as := [(2, 2004), (0, y)]) (rest := []) rfl rfl rfl
theorem b_J0_coder_7d493_5_14 : qG L xs d CJ0_coder_7d493 14 [(2, 2005)] [(0, 0)] (qS v) = some (some (0, 0), qS v) := qG_stk 1 _ _ _ _
theorem jl_5 (x1 x2 y : Int) : qG L xs d CJ1_indexOfChar_4cfef 7 [(2, 1015), (0, x1), (0, x2), (0, 3), (0, y), (0, 0)] [] (qS v) = some (some (0, if 60 = y then 0 else if 61 = y then 1 else if 62 = y then 2 else -1), qS v) := by
  rw [b_J1_indexOfChar_4cfef_5_7, if_pos (by decide), b_J1_indexOfChar_4cfef_5_13, if_pos (by decide), show pm_lof [60, 61, 62] (Int.toNat 0) = 60 from rfl, b_J1_indexOfChar_4cfef_5_17]
  by_cases h0 : 60 = y
  · rw [if_pos h0, if_pos h0, b_J1_indexOfChar_4cfef_5_22]
  · rw [if_neg h0, if_neg h0, b_J1_indexOfChar_4cfef_5_25, show w32 (0 + 1) = 1 from rfl]
    rw [b_J1_indexOfChar_4cfef_5_7, if_pos (by decide), b_J1_indexOfChar_4cfef_5_13, if_pos (by decide), show pm_lof [60, 61, 62] (Int.toNat 1) = 61 from rfl, b_J1_indexOfChar_4cfef_5_17]
    by_cases h1 : 61 = y
    · rw [if_pos h1, if_pos h1, b_J1_indexOfChar_4cfef_5_22]
    · rw [if_neg h1, if_neg h1, b_J1_indexOfChar_4cfef_5_25, show w32 (1 + 1) = 2 from rfl]
      rw [b_J1_indexOfChar_4cfef_5_7, if_pos (by decide), b_J1_indexOfChar_4cfef_5_13, if_pos (by decide), show pm_lof [60, 61, 62] (Int.toNat 2) = 62 from rfl, b_J1_indexOfChar_4cfef_5_17]
      by_cases h2 : 62 = y
      · rw [if_pos h2, if_pos h2, b_J1_indexOfChar_4cfef_5_22]
      · rw [if_neg h2, if_neg h2, b_J1_indexOfChar_4cfef_5_25, show w32 (2 + 1) = 3 from rfl]
        rw [b_J1_indexOfChar_4cfef_5_7, if_neg (by decide), b_J1_indexOfChar_4cfef_5_31]
theorem jx_5 (c : Int) (h0 : 0 ≤ c) (h1 : c ≤ 255) : qE L xs (d + 4) nJ0_indexOf_0f7a4 [(2, 2005), (0, c)] (qS v) = some (some (0, if 60 = w8 c then 0 else if 61 = w8 c then 1 else if 62 = w8 c then 2 else -1), qS v) := by
  have l1 : qE L xs (d + 2) nJ0_length_8abf5 [(2, 2005)] (qS v) = some (some (0, 3), qS v) := by
    rw [e_J0_length_8abf5_5, b_J0_length_8abf5_5_0, e_J0_coder_7d493_5, b_J0_coder_7d493_5_0, b_J0_coder_7d493_5_6, b_J0_coder_7d493_5_14, qB_some, psh_some, b_J0_length_8abf5_5_9, show pm_shr 3 0 = 3 from by decide]
  have l2 : qE L xs (d + 2) nJ0_isLatin1_aae02 [(2, 2005)] (qS v) = some (some (0, 1), qS v) := by
    rw [e_J0_isLatin1_aae02_5, b_J0_isLatin1_aae02_5_0, b_J0_isLatin1_aae02_5_6, b_J0_isLatin1_aae02_5_13, b_J0_isLatin1_aae02_5_18, if_pos (Or.inr rfl)]
  have l3 : qE L xs (d + 1) nJ1_canEncode_9a6ad [(0, c)] (qS v) = some (some (0, 1), qS v) := by
    rw [e_J1_canEncode_9a6ad, b_J1_canEncode_9a6ad_0, if_neg (by omega), b_J1_canEncode_9a6ad_4, if_neg (by omega), b_J1_canEncode_9a6ad_11, b_J1_canEncode_9a6ad_16, if_pos (Or.inr rfl)]
  rw [e_J0_indexOf_0f7a4_5, b_J0_indexOf_0f7a4_5_0, e_J0_indexOf_7cf53_5, b_J0_indexOf_7cf53_5_0, l2, qB_some, psh_some, b_J0_indexOf_7cf53_5_4, if_neg (by decide), b_J0_indexOf_7cf53_5_7, l1, qB_some, psh_some, b_J0_indexOf_7cf53_5_17, e_J1_indexOf_4cfef_5, b_J1_indexOf_4cfef_5_0, l3, qB_some, psh_some, b_J1_indexOf_4cfef_5_4, if_neg (by decide), b_J1_indexOf_4cfef_5_9, show pm_max 0 0 = 0 from rfl, show pm_min 3 3 = 3 from rfl, if_pos (by decide), b_J1_indexOf_4cfef_5_29, e_J1_indexOfChar_4cfef_5, b_J1_indexOfChar_4cfef_5_0, jl_5, qB_some, psh_some, b_J1_indexOf_4cfef_5_36, qB_some, psh_some, b_J0_indexOf_7cf53_5_20, b_J0_indexOf_7cf53_5_36, qB_some, psh_some, b_J0_indexOf_0f7a4_5_6]
theorem jt_5 (c : Int) (h0 : 0 ≤ c) (h1 : c ≤ 255) : (if 60 = w8 c then 0 else if 61 = w8 c then 1 else if 62 = w8 c then 2 else -1) < (0 : Int) ↔ ¬ (sgn 2 c) := by
  unfold w8 sgn
  by_cases h0 : c = 60
  · rw [if_pos (by omega)]
    omega
  · rw [if_neg (by omega)]
    by_cases h1 : c = 61
    · rw [if_pos (by omega)]
      omega
    · rw [if_neg (by omega)]
      by_cases h2 : c = 62
      · rw [if_pos (by omega)]
        omega
      · rw [if_neg (by omega)]
        omega
theorem b_X5_skip_29_5 (y : Int) : qG L xs d CX5_skip 29 [(2, 23), (2, 2005)] [(0, y), (2, 2005)] (qS v) = qB (qE L xs d nJ0_indexOf_0f7a4 [(2, 2005), (0, y)] (qS v)) (fun r σ => qG L xs d CX5_skip 32 [(2, 23), (2, 2005)] (pm_psh r []) σ) := qG_call (as := [(2, 2005), (0, y)]) (rest := []) rfl rfl rfl
theorem b_J0_coder_7d493_6_14 : qG L xs d CJ0_coder_7d493 14 [(2, 2006)] [(0, 0)] (qS v) = some (some (0, 0), qS v) := qG_stk 1 _ _ _ _
theorem jl_6 (x1 x2 y : Int) : qG L xs d CJ1_indexOfChar_4cfef 7 [(2, 1016), (0, x1), (0, x2), (0, 2), (0, y), (0, 0)] [] (qS v) = some (some (0, if 43 = y then 0 else if 45 = y then 1 else -1), qS v) := by
  rw [b_J1_indexOfChar_4cfef_6_7, if_pos (by decide), b_J1_indexOfChar_4cfef_6_13, if_pos (by decide), show pm_lof [43, 45] (Int.toNat 0) = 43 from rfl, b_J1_indexOfChar_4cfef_6_17]
  by_cases h0 : 43 = y
  · rw [if_pos h0, if_pos h0, b_J1_indexOfChar_4cfef_6_22]
  · rw [if_neg h0, if_neg h0, b_J1_indexOfChar_4cfef_6_25, show w32 (0 + 1) = 1 from rfl]
    rw [b_J1_indexOfChar_4cfef_6_7, if_pos (by decide), b_J1_indexOfChar_4cfef_6_13, if_pos (by decide), show pm_lof [43, 45] (Int.toNat 1) = 45 from rfl, b_J1_indexOfChar_4cfef_6_17]
    by_cases h1 : 45 = y
    · rw [if_pos h1, if_pos h1, b_J1_indexOfChar_4cfef_6_22]
    · rw [if_neg h1, if_neg h1, b_J1_indexOfChar_4cfef_6_25, show w32 (1 + 1) = 2 from rfl]
      rw [b_J1_indexOfChar_4cfef_6_7, if_neg (by decide), b_J1_indexOfChar_4cfef_6_31]
theorem jx_6 (c : Int) (h0 : 0 ≤ c) (h1 : c ≤ 255) : qE L xs (d + 4) nJ0_indexOf_0f7a4 [(2, 2006), (0, c)] (qS v) = some (some (0, if 43 = w8 c then 0 else if 45 = w8 c then 1 else -1), qS v) := by
  have l1 : qE L xs (d + 2) nJ0_length_8abf5 [(2, 2006)] (qS v) = some (some (0, 2), qS v) := by
    rw [e_J0_length_8abf5_6, b_J0_length_8abf5_6_0, e_J0_coder_7d493_6, b_J0_coder_7d493_6_0, b_J0_coder_7d493_6_6, b_J0_coder_7d493_6_14, qB_some, psh_some, b_J0_length_8abf5_6_9, show pm_shr 2 0 = 2 from by decide]
  have l2 : qE L xs (d + 2) nJ0_isLatin1_aae02 [(2, 2006)] (qS v) = some (some (0, 1), qS v) := by
    rw [e_J0_isLatin1_aae02_6, b_J0_isLatin1_aae02_6_0, b_J0_isLatin1_aae02_6_6, b_J0_isLatin1_aae02_6_13, b_J0_isLatin1_aae02_6_18, if_pos (Or.inr rfl)]
  have l3 : qE L xs (d + 1) nJ1_canEncode_9a6ad [(0, c)] (qS v) = some (some (0, 1), qS v) := by
    rw [e_J1_canEncode_9a6ad, b_J1_canEncode_9a6ad_0, if_neg (by omega), b_J1_canEncode_9a6ad_4, if_neg (by omega), b_J1_canEncode_9a6ad_11, b_J1_canEncode_9a6ad_16, if_pos (Or.inr rfl)]
  rw [e_J0_indexOf_0f7a4_6, b_J0_indexOf_0f7a4_6_0, e_J0_indexOf_7cf53_6, b_J0_indexOf_7cf53_6_0, l2, qB_some, psh_some, b_J0_indexOf_7cf53_6_4, if_neg (by decide), b_J0_indexOf_7cf53_6_7, l1, qB_some, psh_some, b_J0_indexOf_7cf53_6_17, e_J1_indexOf_4cfef_6, b_J1_indexOf_4cfef_6_0, l3, qB_some, psh_some, b_J1_indexOf_4cfef_6_4, if_neg (by decide), b_J1_indexOf_4cfef_6_9, show pm_max 0 0 = 0 from rfl, show pm_min 2 2 = 2 from rfl, if_pos (by decide), b_J1_indexOf_4cfef_6_29, e_J1_indexOfChar_4cfef_6, b_J1_indexOfChar_4cfef_6_0, jl_6, qB_some, psh_some, b_J1_indexOf_4cfef_6_36, qB_some, psh_some, b_J0_indexOf_7cf53_6_20, b_J0_indexOf_7cf53_6_36, qB_some, psh_some, b_J0_indexOf_0f7a4_6_6]
theorem jt_6 (c : Int) (h0 : 0 ≤ c) (h1 : c ≤ 255) : (if 43 = w8 c then 0 else if 45 = w8 c then 1 else -1) < (0 : Int) ↔ ¬ (sgn 3 c) := by
  unfold w8 sgn
  by_cases h0 : c = 43
  · rw [if_pos (by omega)]
    omega
  · rw [if_neg (by omega)]
    by_cases h1 : c = 45
    · rw [if_pos (by omega)]
      omega
    · rw [if_neg (by omega)]
      omega
theorem b_X5_skip_29_6 (y : Int) : qG L xs d CX5_skip 29 [(2, 23), (2, 2006)] [(0, y), (2, 2006)] (qS v) = qB (qE L xs d nJ0_indexOf_0f7a4 [(2, 2006), (0, y)] (qS v)) (fun r σ => qG L xs d CX5_skip 32 [(2, 23), (2, 2006)] (pm_psh r []) σ) := qG_call (as := [(2, 2006), (0, y)]) (rest := []) rfl rfl rfl
theorem b_J0_coder_7d493_7_14 : qG L xs d CJ0_coder_7d493 14 [(2, 2007)] [(0, 0)] (qS v) = some (some (0, 0), qS v) := qG_stk 1 _ _ _ _
theorem jl_7 (x1 x2 y : Int) : qG L xs d CJ1_indexOfChar_4cfef 7 [(2, 1017), (0, x1), (0, x2), (0, 3), (0, y), (0, 0)] [] (qS v) = some (some (0, if 42 = y then 0 else if 47 = y then 1 else if 37 = y then 2 else -1), qS v) := by
  rw [b_J1_indexOfChar_4cfef_7_7, if_pos (by decide), b_J1_indexOfChar_4cfef_7_13, if_pos (by decide), show pm_lof [42, 47, 37] (Int.toNat 0) = 42 from rfl, b_J1_indexOfChar_4cfef_7_17]
  by_cases h0 : 42 = y
  · rw [if_pos h0, if_pos h0, b_J1_indexOfChar_4cfef_7_22]
  · rw [if_neg h0, if_neg h0, b_J1_indexOfChar_4cfef_7_25, show w32 (0 + 1) = 1 from rfl]
    rw [b_J1_indexOfChar_4cfef_7_7, if_pos (by decide), b_J1_indexOfChar_4cfef_7_13, if_pos (by decide), show pm_lof [42, 47, 37] (Int.toNat 1) = 47 from rfl, b_J1_indexOfChar_4cfef_7_17]
    by_cases h1 : 47 = y
    · rw [if_pos h1, if_pos h1, b_J1_indexOfChar_4cfef_7_22]
    · rw [if_neg h1, if_neg h1, b_J1_indexOfChar_4cfef_7_25, show w32 (1 + 1) = 2 from rfl]
      rw [b_J1_indexOfChar_4cfef_7_7, if_pos (by decide), b_J1_indexOfChar_4cfef_7_13, if_pos (by decide), show pm_lof [42, 47, 37] (Int.toNat 2) = 37 from rfl, b_J1_indexOfChar_4cfef_7_17]
      by_cases h2 : 37 = y
      · rw [if_pos h2, if_pos h2, b_J1_indexOfChar_4cfef_7_22]
      · rw [if_neg h2, if_neg h2, b_J1_indexOfChar_4cfef_7_25, show w32 (2 + 1) = 3 from rfl]
        rw [b_J1_indexOfChar_4cfef_7_7, if_neg (by decide), b_J1_indexOfChar_4cfef_7_31]
theorem jx_7 (c : Int) (h0 : 0 ≤ c) (h1 : c ≤ 255) : qE L xs (d + 4) nJ0_indexOf_0f7a4 [(2, 2007), (0, c)] (qS v) = some (some (0, if 42 = w8 c then 0 else if 47 = w8 c then 1 else if 37 = w8 c then 2 else -1), qS v) := by
  have l1 : qE L xs (d + 2) nJ0_length_8abf5 [(2, 2007)] (qS v) = some (some (0, 3), qS v) := by
    rw [e_J0_length_8abf5_7, b_J0_length_8abf5_7_0, e_J0_coder_7d493_7, b_J0_coder_7d493_7_0, b_J0_coder_7d493_7_6, b_J0_coder_7d493_7_14, qB_some, psh_some, b_J0_length_8abf5_7_9, show pm_shr 3 0 = 3 from by decide]
  have l2 : qE L xs (d + 2) nJ0_isLatin1_aae02 [(2, 2007)] (qS v) = some (some (0, 1), qS v) := by
    rw [e_J0_isLatin1_aae02_7, b_J0_isLatin1_aae02_7_0, b_J0_isLatin1_aae02_7_6, b_J0_isLatin1_aae02_7_13, b_J0_isLatin1_aae02_7_18, if_pos (Or.inr rfl)]
  have l3 : qE L xs (d + 1) nJ1_canEncode_9a6ad [(0, c)] (qS v) = some (some (0, 1), qS v) := by
    rw [e_J1_canEncode_9a6ad, b_J1_canEncode_9a6ad_0, if_neg (by omega), b_J1_canEncode_9a6ad_4, if_neg (by omega), b_J1_canEncode_9a6ad_11, b_J1_canEncode_9a6ad_16, if_pos (Or.inr rfl)]
  rw [e_J0_indexOf_0f7a4_7, b_J0_indexOf_0f7a4_7_0, e_J0_indexOf_7cf53_7, b_J0_indexOf_7cf53_7_0, l2, qB_some, psh_some, b_J0_indexOf_7cf53_7_4, if_neg (by decide), b_J0_indexOf_7cf53_7_7, l1, qB_some, psh_some, b_J0_indexOf_7cf53_7_17, e_J1_indexOf_4cfef_7, b_J1_indexOf_4cfef_7_0, l3, qB_some, psh_some, b_J1_indexOf_4cfef_7_4, if_neg (by decide), b_J1_indexOf_4cfef_7_9, show pm_max 0 0 = 0 from rfl, show pm_min 3 3 = 3 from rfl, if_pos (by decide), b_J1_indexOf_4cfef_7_29, e_J1_indexOfChar_4cfef_7, b_J1_indexOfChar_4cfef_7_0, jl_7, qB_some, psh_some, b_J1_indexOf_4cfef_7_36, qB_some, psh_some, b_J0_indexOf_7cf53_7_20, b_J0_indexOf_7cf53_7_36, qB_some, psh_some, b_J0_indexOf_0f7a4_7_6]
theorem jt_7 (c : Int) (h0 : 0 ≤ c) (h1 : c ≤ 255) : (if 42 = w8 c then 0 else if 47 = w8 c then 1 else if 37 = w8 c then 2 else -1) < (0 : Int) ↔ ¬ (sgn 4 c) := by
  unfold w8 sgn
  by_cases h0 : c = 42
  · rw [if_pos (by omega)]
    omega
  · rw [if_neg (by omega)]
    by_cases h1 : c = 47
    · rw [if_pos (by omega)]
      omega
    · rw [if_neg (by omega)]
      by_cases h2 : c = 37
      · rw [if_pos (by omega)]
        omega
      · rw [if_neg (by omega)]
        omega
theorem b_X5_skip_29_7 (y : Int) : qG L xs d CX5_skip 29 [(2, 23), (2, 2007)] [(0, y), (2, 2007)] (qS v) = qB (qE L xs d nJ0_indexOf_0f7a4 [(2, 2007), (0, y)] (qS v)) (fun r σ => qG L xs d CX5_skip 32 [(2, 23), (2, 2007)] (pm_psh r []) σ) := qG_call (as := [(2, 2007), (0, y)]) (rest := []) rfl rfl rfl
theorem b_J0_coder_7d493_8_14 : qG L xs d CJ0_coder_7d493 14 [(2, 2008)] [(0, 0)] (qS v) = some (some (0, 0), qS v) := qG_stk 1 _ _ _ _
theorem jl_8 (x1 x2 y : Int) : qG L xs d CJ1_indexOfChar_4cfef 7 [(2, 1018), (0, x1), (0, x2), (0, 1), (0, y), (0, 0)] [] (qS v) = some (some (0, if 63 = y then 0 else -1), qS v) := by
  rw [b_J1_indexOfChar_4cfef_8_7, if_pos (by decide), b_J1_indexOfChar_4cfef_8_13, if_pos (by decide), show pm_lof [63] (Int.toNat 0) = 63 from rfl, b_J1_indexOfChar_4cfef_8_17]
  by_cases h0 : 63 = y
  · rw [if_pos h0, if_pos h0, b_J1_indexOfChar_4cfef_8_22]
  · rw [if_neg h0, if_neg h0, b_J1_indexOfChar_4cfef_8_25, show w32 (0 + 1) = 1 from rfl]
    rw [b_J1_indexOfChar_4cfef_8_7, if_neg (by decide), b_J1_indexOfChar_4cfef_8_31]
theorem jx_8 (c : Int) (h0 : 0 ≤ c) (h1 : c ≤ 255) : qE L xs (d + 4) nJ0_indexOf_0f7a4 [(2, 2008), (0, c)] (qS v) = some (some (0, if 63 = w8 c then 0 else -1), qS v) := by
  have l1 : qE L xs (d + 2) nJ0_length_8abf5 [(2, 2008)] (qS v) = some (some (0, 1), qS v) := by
    rw [e_J0_length_8abf5_8, b_J0_length_8abf5_8_0, e_J0_coder_7d493_8, b_J0_coder_7d493_8_0, b_J0_coder_7d493_8_6, b_J0_coder_7d493_8_14, qB_some, psh_some, b_J0_length_8abf5_8_9, show pm_shr 1 0 = 1 from by decide]
  have l2 : qE L xs (d + 2) nJ0_isLatin1_aae02 [(2, 2008)] (qS v) = some (some (0, 1), qS v) := by
    rw [e_J0_isLatin1_aae02_8, b_J0_isLatin1_aae02_8_0, b_J0_isLatin1_aae02_8_6, b_J0_isLatin1_aae02_8_13, b_J0_isLatin1_aae02_8_18, if_pos (Or.inr rfl)]
  have l3 : qE L xs (d + 1) nJ1_canEncode_9a6ad [(0, c)] (qS v) = some (some (0, 1), qS v) := by
    rw [e_J1_canEncode_9a6ad, b_J1_canEncode_9a6ad_0, if_neg (by omega), b_J1_canEncode_9a6ad_4, if_neg (by omega), b_J1_canEncode_9a6ad_11, b_J1_canEncode_9a6ad_16, if_pos (Or.inr rfl)]
  rw [e_J0_indexOf_0f7a4_8, b_J0_indexOf_0f7a4_8_0, e_J0_indexOf_7cf53_8, b_J0_indexOf_7cf53_8_0, l2, qB_some, psh_some, b_J0_indexOf_7cf53_8_4, if_neg (by decide), b_J0_indexOf_7cf53_8_7, l1, qB_some, psh_some, b_J0_indexOf_7cf53_8_17, e_J1_indexOf_4cfef_8, b_J1_indexOf_4cfef_8_0, l3, qB_some, psh_some, b_J1_indexOf_4cfef_8_4, if_neg (by decide), b_J1_indexOf_4cfef_8_9, show pm_max 0 0 = 0 from rfl, show pm_min 1 1 = 1 from rfl, if_pos (by decide), b_J1_indexOf_4cfef_8_29, e_J1_indexOfChar_4cfef_8, b_J1_indexOfChar_4cfef_8_0, jl_8, qB_some, psh_some, b_J1_indexOf_4cfef_8_36, qB_some, psh_some, b_J0_indexOf_7cf53_8_20, b_J0_indexOf_7cf53_8_36, qB_some, psh_some, b_J0_indexOf_0f7a4_8_6]
theorem jt_8 (c : Int) (h0 : 0 ≤ c) (h1 : c ≤ 255) : (if 63 = w8 c then 0 else -1) < (0 : Int) ↔ ¬ (c = 63) := by
  unfold w8
  by_cases h0 : c = 63
  · rw [if_pos (by omega)]
    omega
  · rw [if_neg (by omega)]
    omega
theorem b_X5_skip_29_8 (y : Int) : qG L xs d CX5_skip 29 [(2, 23), (2, 2008)] [(0, y), (2, 2008)] (qS v) = qB (qE L xs d nJ0_indexOf_0f7a4 [(2, 2008), (0, y)] (qS v)) (fun r σ => qG L xs d CX5_skip 32 [(2, 23), (2, 2008)] (pm_psh r []) σ) := qG_call (as := [(2, 2008), (0, y)]) (rest := []) rfl rfl rfl
theorem b_J0_coder_7d493_9_14 : qG L xs d CJ0_coder_7d493 14 [(2, 2009)] [(0, 0)] (qS v) = some (some (0, 0), qS v) := qG_stk 1 _ _ _ _
theorem jl_9 (x1 x2 y : Int) : qG L xs d CJ1_indexOfChar_4cfef 7 [(2, 1019), (0, x1), (0, x2), (0, 1), (0, y), (0, 0)] [] (qS v) = some (some (0, if 59 = y then 0 else -1), qS v) := by
  rw [b_J1_indexOfChar_4cfef_9_7, if_pos (by decide), b_J1_indexOfChar_4cfef_9_13, if_pos (by decide), show pm_lof [59] (Int.toNat 0) = 59 from rfl, b_J1_indexOfChar_4cfef_9_17]
  by_cases h0 : 59 = y
  · rw [if_pos h0, if_pos h0, b_J1_indexOfChar_4cfef_9_22]
  · rw [if_neg h0, if_neg h0, b_J1_indexOfChar_4cfef_9_25, show w32 (0 + 1) = 1 from rfl]
    rw [b_J1_indexOfChar_4cfef_9_7, if_neg (by decide), b_J1_indexOfChar_4cfef_9_31]
theorem jx_9 (c : Int) (h0 : 0 ≤ c) (h1 : c ≤ 255) : qE L xs (d + 4) nJ0_indexOf_0f7a4 [(2, 2009), (0, c)] (qS v) = some (some (0, if 59 = w8 c then 0 else -1), qS v) := by
  have l1 : qE L xs (d + 2) nJ0_length_8abf5 [(2, 2009)] (qS v) = some (some (0, 1), qS v) := by
    rw [e_J0_length_8abf5_9, b_J0_length_8abf5_9_0, e_J0_coder_7d493_9, b_J0_coder_7d493_9_0, b_J0_coder_7d493_9_6, b_J0_coder_7d493_9_14, qB_some, psh_some, b_J0_length_8abf5_9_9, show pm_shr 1 0 = 1 from by decide]
  have l2 : qE L xs (d + 2) nJ0_isLatin1_aae02 [(2, 2009)] (qS v) = some (some (0, 1), qS v) := by
    rw [e_J0_isLatin1_aae02_9, b_J0_isLatin1_aae02_9_0, b_J0_isLatin1_aae02_9_6, b_J0_isLatin1_aae02_9_13, b_J0_isLatin1_aae02_9_18, if_pos (Or.inr rfl)]
  have l3 : qE L xs (d + 1) nJ1_canEncode_9a6ad [(0, c)] (qS v) = some (some (0, 1), qS v) := by
    rw [e_J1_canEncode_9a6ad, b_J1_canEncode_9a6ad_0, if_neg (by omega), b_J1_canEncode_9a6ad_4, if_neg (by omega), b_J1_canEncode_9a6ad_11, b_J1_canEncode_9a6ad_16, if_pos (Or.inr rfl)]
  rw [e_J0_indexOf_0f7a4_9, b_J0_indexOf_0f7a4_9_0, e_J0_indexOf_7cf53_9, b_J0_indexOf_7cf53_9_0, l2, qB_some, psh_some, b_J0_indexOf_7cf53_9_4, if_neg (by decide), b_J0_indexOf_7cf53_9_7, l1, qB_some, psh_some, b_J0_indexOf_7cf53_9_17, e_J1_indexOf_4cfef_9, b_J1_indexOf_4cfef_9_0, l3, qB_some, psh_some, b_J1_indexOf_4cfef_9_4, if_neg (by decide), b_J1_indexOf_4cfef_9_9, show pm_max 0 0 = 0 from rfl, show pm_min 1 1 = 1 from rfl, if_pos (by decide), b_J1_indexOf_4cfef_9_29, e_J1_indexOfChar_4cfef_9, b_J1_indexOfChar_4cfef_9_0, jl_9, qB_some, psh_some, b_J1_indexOf_4cfef_9_36, qB_some, psh_some, b_J0_indexOf_7cf53_9_20, b_J0_indexOf_7cf53_9_36, qB_some, psh_some, b_J0_indexOf_0f7a4_9_6]
theorem jt_9 (c : Int) (h0 : 0 ≤ c) (h1 : c ≤ 255) : (if 59 = w8 c then 0 else -1) < (0 : Int) ↔ ¬ (c = 59) := by
  unfold w8
  by_cases h0 : c = 59
  · rw [if_pos (by omega)]
    omega
  · rw [if_neg (by omega)]
    omega
theorem b_X5_skip_29_9 (y : Int) : qG L xs d CX5_skip 29 [(2, 23), (2, 2009)] [(0, y), (2, 2009)] (qS v) = qB (qE L xs d nJ0_indexOf_0f7a4 [(2, 2009), (0, y)] (qS v)) (fun r σ => qG L xs d CX5_skip 32 [(2, 23), (2, 2009)] (pm_psh r []) σ) := qG_call (as := [(2, 2009), (0, y)]) (rest := []) rfl rfl rfl
end OTI
end
section
/-! THE LAW as the class reads it: its small steps -/
section OTJ
variable {L : Nat} {xs : Nat → Int} {d : Nat} {v : Nat → Nat → Int} {b : Nat → Int} {e D : Nat} {k f : Int} {l : List Int}
/-- where it reads, the fault, what is drafted (in cell D) -/
def kdS (v : Nat → Nat → Int) (D : Nat) (k f : Int) (l : List Int) : Nat → Nat → Int := fun c j => if c = 23 then (if j = 8 then k else if j = 9 then f else if j = 6 then (l.length : Int) else v c j) else if c = D then (l[j]?).getD (v c j) else v c j
theorem kd_8 : kdS v D k f l 23 8 = k := rfl
theorem kd_9 : kdS v D k f l 23 9 = f := rfl
theorem kd_6 : kdS v D k f l 23 6 = (l.length : Int) := rfl
theorem kd_23 {j : Nat} (h : j ≠ 8 ∧ j ≠ 9 ∧ j ≠ 6) : kdS v D k f l 23 j = v 23 j := by
  unfold kdS
  rw [if_pos rfl, if_neg h.1, if_neg h.2.1, if_neg h.2.2]
theorem kd_ne {c j : Nat} (h : c ≠ 23) (h2 : c ≠ D) : kdS v D k f l c j = v c j := by
  unfold kdS
  rw [if_neg h, if_neg h2]
theorem kd_u8 (z : Int) : pm_up (kdS v D k f l) 23 8 z = kdS v D z f l := by
  funext c j
  unfold pm_up kdS
  by_cases g : c = 23
  · by_cases g2 : j = 8
    · rw [if_pos ⟨g, g2⟩, if_pos g, if_pos g2]
    · rw [if_neg (fun t => g2 t.2), if_pos g, if_pos g, if_neg g2, if_neg g2]
  · rw [if_neg (fun t => g t.1), if_neg g, if_neg g]
theorem kd_u9 (z : Int) : pm_up (kdS v D k f l) 23 9 z = kdS v D k z l := by
  funext c j
  unfold pm_up kdS
  by_cases g : c = 23
  · by_cases g2 : j = 9
    · rw [if_pos ⟨g, g2⟩, if_pos g, if_neg (by omega), if_pos g2]
    · rw [if_neg (fun t => g2 t.2), if_pos g, if_pos g, if_neg g2, if_neg g2]
  · rw [if_neg (fun t => g t.1), if_neg g, if_neg g]
theorem kd_w (hD : D ≠ 23) (z : Int) : pm_up (pm_up (kdS v D k f l) D l.length z) 23 6 ((l.length : Int) + 1) = kdS v D k f (l ++ [z]) := by
  have hl : (l ++ [z]).length = l.length + 1 := by
    rw [List.length_append]
    rfl
  funext c j
  unfold pm_up kdS
  by_cases g : c = 23
  · by_cases g2 : j = 6
    · rw [if_pos ⟨g, g2⟩, if_pos g, if_neg (by omega), if_neg (by omega), if_pos g2, hl]
      omega
    · rw [if_neg (fun t => g2 t.2), if_neg (by omega), if_pos g, if_pos g, if_neg g2, if_neg g2]
  · rw [if_neg (fun t => g t.1), if_neg g, if_neg g]
    by_cases g1 : c = D
    · rw [if_pos g1, if_pos g1]
      by_cases g3 : j = l.length
      · rw [if_pos ⟨g1, g3⟩, g3, List.getElem?_append_right (Nat.le_refl _), Nat.sub_self]
        rfl
      · rw [if_neg (fun t => g3 t.2)]
        by_cases g4 : j < l.length
        · rw [List.getElem?_append_left g4]
        · rw [List.getElem?_append_right (by omega), List.getElem?_eq_none (by omega), List.getElem?_eq_none (by show 1 ≤ _; omega)]
    · rw [if_neg g1, if_neg g1, if_neg (fun t => g1 t.1)]
/-- what it reads: the tape; where it writes -/
def kB (v : Nat → Nat → Int) (b : Nat → Int) (e D : Nat) : Prop := v 23 10 = (e : Int) ∧ e ≤ 120 ∧ (∀ i, i < e → v 24 i = b i ∧ 0 ≤ b i ∧ b i ≤ 255) ∧ (D = 25 ∨ D = 26) ∧ v 23 2 = .ofNat D
theorem k_fail : qE L xs (d + 1) nX5_fail [(2, 23)] (qS (kdS v D k f l)) = some (none, qS (kdS v D k (if f < 0 then k else f) l)) := by
  rw [e_X5_fail, b_X5_fail_0, kd_9]
  by_cases g : f < 0
  · rw [if_pos g, if_pos g, b_X5_fail_7, kd_8, kd_u9, b_X5_fail_15]
  · rw [if_neg g, if_neg g, b_X5_fail_15]
theorem k_write (h : kB v b e D) (hl : l.length ≤ 120) (z : Int) : qE L xs (d + 1) nX5_write [(2, 23), (0, z)] (qS (kdS v D k f l)) = some (none, qS (kdS v D k f (l ++ [z]))) := by
  obtain ⟨h1, h2, h3, h4, h5⟩ := h
  refine (c_write (c := D) h4 ((kd_23 (by omega)).trans h5) (by rw [kd_6]; omega) (by rw [kd_6]; omega) z).trans ?_
  rw [kd_6, Int.toNat_natCast, kd_w (by omega)]
theorem k_digit (h : kB v b e D) {k : Nat} : qE L xs (d + 1) nX5_isDigitAhead [(2, 23)] (qS (kdS v D (k : Int) f l)) = some (some (0, if f < 0 ∧ k < e ∧ dgt (b k) then 1 else 0), qS (kdS v D (k : Int) f l)) := by
  obtain ⟨h1, h2, h3, h4, h5⟩ := h
  have k10 : kdS v D (k : Int) f l 23 10 = (e : Int) := (kd_23 (by omega)).trans h1
  rw [e_X5_isDigitAhead, b_X5_isDigitAhead_0, kd_9]
  by_cases g : f < 0
  · rw [if_pos g, b_X5_isDigitAhead_7, kd_8, k10]
    by_cases g2 : k < e
    · have k24 : kdS v D (k : Int) f l 24 k = b k := (kd_ne (by omega) (by omega)).trans (h3 k g2).1
      rw [if_pos (by omega), b_X5_isDigitAhead_18, kd_8, if_pos (by omega), Int.toNat_natCast, k24, b_X5_isDigitAhead_27]
      by_cases g3 : b k < 48
      · rw [if_pos g3, b_X5_isDigitAhead_50, b_X5_isDigitAhead_51, if_pos (Or.inl rfl), if_neg (fun t => by have := t.2.2.1; omega)]
      · rw [if_neg g3, b_X5_isDigitAhead_32, kd_8, if_pos (by omega), Int.toNat_natCast, k24, b_X5_isDigitAhead_41]
        by_cases g4 : 57 < b k
        · rw [if_pos g4, b_X5_isDigitAhead_50, b_X5_isDigitAhead_51, if_pos (Or.inl rfl), if_neg (fun t => by have := t.2.2.2; omega)]
        · rw [if_neg g4, b_X5_isDigitAhead_46, b_X5_isDigitAhead_51, if_pos (Or.inr rfl), if_pos ⟨g, g2, by omega, by omega⟩]
    · rw [if_neg (by omega), b_X5_isDigitAhead_50, b_X5_isDigitAhead_51, if_pos (Or.inl rfl), if_neg (fun t => g2 t.2.1)]
  · rw [if_neg g, b_X5_isDigitAhead_50, b_X5_isDigitAhead_51, if_pos (Or.inl rfl), if_neg (fun t => g t.1)]
theorem k_digits (h : kB v b e D) (hf : f < 0) (hl : l.length ≤ 120) : ∀ (n k : Nat) (z : Int), n ≤ 4 → k ≤ e → 0 ≤ z → z < 10 ^ (4 - n) → qG L xs (d + 1) CX5_readNumber 4 [(2, 23), (0, z), (0, 4 - (n : Int))] [] (qS (kdS v D (k : Int) f l)) = some (none, qS (kdS v D ((rdNum b e n z k).2 : Int) f (l ++ [(rdNum b e n z k).1])))
  | 0, k, z, hn, hk, h0, hz => by
    rw [b_X5_readNumber_4, if_neg (by omega), b_X5_readNumber_50, k_write h hl, qB_some, psh_none, b_X5_readNumber_55]
    rfl
  | n + 1, k, z, hn, hk, h0, hz => by
    have he := h.2.1
    have z4 : z < 1000 := by
      have : n = 0 ∨ n = 1 ∨ n = 2 ∨ n = 3 := by omega
      rcases this with rfl | rfl | rfl | rfl
      · exact hz
      · have : z < 100 := hz
        omega
      · have : z < 10 := hz
        omega
      · have : z < 1 := hz
        omega
    rw [b_X5_readNumber_4, if_pos (by omega), b_X5_readNumber_9, k_digit h, qB_some, psh_some, b_X5_readNumber_13]
    unfold rdNum
    by_cases g : k < e ∧ dgt (b k)
    · have p : (10 : Int) ^ (4 - n) = 10 * 10 ^ (4 - (n + 1)) := by
        rw [show 4 - n = (4 - (n + 1)) + 1 by omega, Int.pow_succ, Int.mul_comm]
      have dg := g.2
      unfold dgt at dg
      have ih := k_digits h hf hl n (k + 1) (z * 10 + b k - 48) (by omega) (by omega) (by omega) (by rw [p]; omega)
      have k24 : kdS v D (k : Int) f l 24 k = b k := (kd_ne (by omega) (by have := h.2.2.2.1; omega)).trans (h.2.2.1 k g.1).1
      have dv : (if f < 0 ∧ k < e ∧ dgt (b k) then (1 : Int) else 0) = 1 := if_pos ⟨hf, g⟩
      rw [dv, if_neg (by decide), b_X5_readNumber_16, kd_8, if_pos (by omega), Int.toNat_natCast, k24, b_X5_readNumber_29, kd_8, kd_u8, w32_id (z := (k : Int) + 1) (by omega) (by omega), w32_id (z := z * 10) (by omega) (by omega), w32_id (z := z * 10 + b k) (by omega) (by omega), w32_id (z := z * 10 + b k - 48) (by omega) (by omega), b_X5_readNumber_44, w32_id (by omega) (by omega), if_pos g]
      rw [show ((k + 1 : Nat) : Int) = (k : Int) + 1 by omega, show 4 - (n : Int) = 4 - ((n + 1 : Nat) : Int) + 1 by omega] at ih
      exact ih
    · have dv : (if f < 0 ∧ k < e ∧ dgt (b k) then (1 : Int) else 0) = 0 := if_neg (fun t => g t.2)
      rw [dv, if_pos rfl, b_X5_readNumber_50, k_write h hl, qB_some, psh_none, b_X5_readNumber_55, if_neg g]
theorem k_number (h : kB v b e D) {k : Nat} (hf : f < 0) (hl : l.length ≤ 120) (hk : k ≤ e) : qE L xs (d + 2) nX5_readNumber [(2, 23)] (qS (kdS v D (k : Int) f l)) = some (none, qS (kdS v D ((rdNum b e 4 0 k).2 : Int) f (l ++ [(rdNum b e 4 0 k).1]))) := by
  rw [e_X5_readNumber, b_X5_readNumber_0]
  exact k_digits h hf hl 4 k 0 (by omega) hk (by omega) (by decide)
theorem k_skip (h : kB v b e D) (r : Nat) (zf : Int → Int) (hb : ∀ (u : Nat → Nat → Int) (y : Int), 0 ≤ y → y ≤ 255 → qG L xs (d + 4) CX5_skip 29 [(2, 23), (2, .ofNat r)] [(0, y), (2, .ofNat r)] (qS u) = qG L xs (d + 4) CX5_skip 32 [(2, 23), (2, .ofNat r)] [(0, zf y)] (qS u)) {k : Nat} : qE L xs (d + 5) nX5_skip [(2, 23), (2, .ofNat r)] (qS (kdS v D (k : Int) f l)) = if f < 0 ∧ k < e ∧ 0 ≤ zf (b k) then some (some (0, b k), qS (kdS v D ((k : Int) + 1) f l)) else some (some (0, 0), qS (kdS v D (k : Int) f l)) := by
  obtain ⟨h1, h2, h3, h4, h5⟩ := h
  have k10 : kdS v D (k : Int) f l 23 10 = (e : Int) := (kd_23 (by omega)).trans h1
  rw [show d + 5 = d + 4 + 1 from rfl, e_X5_skip, b_X5_skip_0, kd_9]
  by_cases g : f < 0
  · rw [if_pos g, b_X5_skip_7, kd_8, k10]
    by_cases g2 : k < e
    · obtain ⟨g3, g4, g5⟩ := h3 k g2
      have k24 : ∀ k2 : Int, kdS v D k2 f l 24 k = b k := fun k2 => (kd_ne (by omega) (by omega)).trans g3
      rw [if_pos (by omega), b_X5_skip_18, kd_8, if_pos (by omega), Int.toNat_natCast, k24, b_X5_skip_28, show b k % 65536 = b k by omega, hb _ _ g4 g5, b_X5_skip_32]
      by_cases g6 : zf (b k) < 0
      · rw [if_pos g6, if_neg (fun t => by have := t.2.2; omega), b_X5_skip_35]
      · rw [if_neg g6, if_pos ⟨g, g2, by omega⟩, b_X5_skip_37, kd_8, kd_u8, w32_id (z := (k : Int) + 1) (by omega) (by omega), b_X5_skip_47, kd_8, show (k : Int) + 1 - 1 = (k : Int) by omega, w32_id (z := (k : Int)) (by omega) (by omega), if_pos (by omega), Int.toNat_natCast, k24, b_X5_skip_58]
    · rw [if_neg (by omega), b_X5_skip_35, if_neg (fun t => g2 t.2.1)]
  · rw [if_neg g, b_X5_skip_35, if_neg (fun t => g t.1)]
theorem sk_if {c1 c2 : Prop} [Decidable c1] [Decidable c2] {x y : Option pm_R} (h : c1 ↔ c2) : (if c1 then x else y) = if c2 then x else y := by
  by_cases g : c1
  · rw [if_pos g, if_pos (h.mp g)]
  · rw [if_neg g, if_neg (fun t => g (h.mpr t))]
theorem sk_0 (h : kB v b e D) {k : Nat} : qE L xs (d + 5) nX5_skip [(2, 23), (2, 2000)] (qS (kdS v D (k : Int) f l)) = if f < 0 ∧ k < e ∧ 0 ≤ nmI (b k) then some (some (0, b k), qS (kdS v D ((k : Int) + 1) f l)) else some (some (0, 0), qS (kdS v D (k : Int) f l)) := by
  refine (k_skip (L := L) (xs := xs) (d := d) (f := f) (l := l) (k := k) h 2000 (fun y => if 116 = w8 y then 0 else if 119 = w8 y then 1 else if 111 = w8 y then 2 else if 115 = w8 y then 3 else if 121 = w8 y then 4 else if 100 = w8 y then 5 else -1) (fun u y h0 h1 => Eq.trans (b_X5_skip_29_0 y) (Eq.trans (congrArg (fun o => qB o (fun r σ => qG L xs (d + 4) CX5_skip 32 [(2, 23), (2, 2000)] (pm_psh r []) σ)) (jx_0 (d := d) y h0 h1)) rfl))).trans (sk_if ⟨fun t => ⟨t.1, t.2.1, ?_⟩, fun t => ⟨t.1, t.2.1, ?_⟩⟩)
  · have g := h.2.2.1 k t.2.1
    exact Decidable.byContradiction (fun q => Int.not_le.mpr ((jt_0 (b k) g.2.1 g.2.2).mpr q) t.2.2)
  · have g := h.2.2.1 k t.2.1
    exact Int.not_lt.mp (fun q => (jt_0 (b k) g.2.1 g.2.2).mp q t.2.2)
theorem sk_1 (h : kB v b e D) {k : Nat} : qE L xs (d + 5) nX5_skip [(2, 23), (2, 2001)] (qS (kdS v D (k : Int) f l)) = if f < 0 ∧ k < e ∧ (b k = 40 ∨ b k = 33 ∨ b k = 45) then some (some (0, b k), qS (kdS v D ((k : Int) + 1) f l)) else some (some (0, 0), qS (kdS v D (k : Int) f l)) := by
  refine (k_skip (L := L) (xs := xs) (d := d) (f := f) (l := l) (k := k) h 2001 (fun y => if 40 = w8 y then 0 else if 33 = w8 y then 1 else if 45 = w8 y then 2 else -1) (fun u y h0 h1 => Eq.trans (b_X5_skip_29_1 y) (Eq.trans (congrArg (fun o => qB o (fun r σ => qG L xs (d + 4) CX5_skip 32 [(2, 23), (2, 2001)] (pm_psh r []) σ)) (jx_1 (d := d) y h0 h1)) rfl))).trans (sk_if ⟨fun t => ⟨t.1, t.2.1, ?_⟩, fun t => ⟨t.1, t.2.1, ?_⟩⟩)
  · have g := h.2.2.1 k t.2.1
    exact Decidable.byContradiction (fun q => Int.not_le.mpr ((jt_1 (b k) g.2.1 g.2.2).mpr q) t.2.2)
  · have g := h.2.2.1 k t.2.1
    exact Int.not_lt.mp (fun q => (jt_1 (b k) g.2.1 g.2.2).mp q t.2.2)
theorem sk_2 (h : kB v b e D) {k : Nat} : qE L xs (d + 5) nX5_skip [(2, 23), (2, 2002)] (qS (kdS v D (k : Int) f l)) = if f < 0 ∧ k < e ∧ b k = 41 then some (some (0, b k), qS (kdS v D ((k : Int) + 1) f l)) else some (some (0, 0), qS (kdS v D (k : Int) f l)) := by
  refine (k_skip (L := L) (xs := xs) (d := d) (f := f) (l := l) (k := k) h 2002 (fun y => if 41 = w8 y then 0 else -1) (fun u y h0 h1 => Eq.trans (b_X5_skip_29_2 y) (Eq.trans (congrArg (fun o => qB o (fun r σ => qG L xs (d + 4) CX5_skip 32 [(2, 23), (2, 2002)] (pm_psh r []) σ)) (jx_2 (d := d) y h0 h1)) rfl))).trans (sk_if ⟨fun t => ⟨t.1, t.2.1, ?_⟩, fun t => ⟨t.1, t.2.1, ?_⟩⟩)
  · have g := h.2.2.1 k t.2.1
    exact Decidable.byContradiction (fun q => Int.not_le.mpr ((jt_2 (b k) g.2.1 g.2.2).mpr q) t.2.2)
  · have g := h.2.2.1 k t.2.1
    exact Int.not_lt.mp (fun q => (jt_2 (b k) g.2.1 g.2.2).mp q t.2.2)
theorem sk_3 (h : kB v b e D) {k : Nat} : qE L xs (d + 5) nX5_skip [(2, 23), (2, 2003)] (qS (kdS v D (k : Int) f l)) = if f < 0 ∧ k < e ∧ sgn 0 (b k) then some (some (0, b k), qS (kdS v D ((k : Int) + 1) f l)) else some (some (0, 0), qS (kdS v D (k : Int) f l)) := by
  refine (k_skip (L := L) (xs := xs) (d := d) (f := f) (l := l) (k := k) h 2003 (fun y => if 124 = w8 y then 0 else -1) (fun u y h0 h1 => Eq.trans (b_X5_skip_29_3 y) (Eq.trans (congrArg (fun o => qB o (fun r σ => qG L xs (d + 4) CX5_skip 32 [(2, 23), (2, 2003)] (pm_psh r []) σ)) (jx_3 (d := d) y h0 h1)) rfl))).trans (sk_if ⟨fun t => ⟨t.1, t.2.1, ?_⟩, fun t => ⟨t.1, t.2.1, ?_⟩⟩)
  · have g := h.2.2.1 k t.2.1
    exact Decidable.byContradiction (fun q => Int.not_le.mpr ((jt_3 (b k) g.2.1 g.2.2).mpr q) t.2.2)
  · have g := h.2.2.1 k t.2.1
    exact Int.not_lt.mp (fun q => (jt_3 (b k) g.2.1 g.2.2).mp q t.2.2)
theorem sk_4 (h : kB v b e D) {k : Nat} : qE L xs (d + 5) nX5_skip [(2, 23), (2, 2004)] (qS (kdS v D (k : Int) f l)) = if f < 0 ∧ k < e ∧ sgn 1 (b k) then some (some (0, b k), qS (kdS v D ((k : Int) + 1) f l)) else some (some (0, 0), qS (kdS v D (k : Int) f l)) := by
  refine (k_skip (L := L) (xs := xs) (d := d) (f := f) (l := l) (k := k) h 2004 (fun y => if 38 = w8 y then 0 else -1) (fun u y h0 h1 => Eq.trans (b_X5_skip_29_4 y) (Eq.trans (congrArg (fun o => qB o (fun r σ => qG L xs (d + 4) CX5_skip 32 [(2, 23), (2, 2004)] (pm_psh r []) σ)) (jx_4 (d := d) y h0 h1)) rfl))).trans (sk_if ⟨fun t => ⟨t.1, t.2.1, ?_⟩, fun t => ⟨t.1, t.2.1, ?_⟩⟩)
  · have g := h.2.2.1 k t.2.1
    exact Decidable.byContradiction (fun q => Int.not_le.mpr ((jt_4 (b k) g.2.1 g.2.2).mpr q) t.2.2)
  · have g := h.2.2.1 k t.2.1
    exact Int.not_lt.mp (fun q => (jt_4 (b k) g.2.1 g.2.2).mp q t.2.2)
theorem sk_5 (h : kB v b e D) {k : Nat} : qE L xs (d + 5) nX5_skip [(2, 23), (2, 2005)] (qS (kdS v D (k : Int) f l)) = if f < 0 ∧ k < e ∧ sgn 2 (b k) then some (some (0, b k), qS (kdS v D ((k : Int) + 1) f l)) else some (some (0, 0), qS (kdS v D (k : Int) f l)) := by
  refine (k_skip (L := L) (xs := xs) (d := d) (f := f) (l := l) (k := k) h 2005 (fun y => if 60 = w8 y then 0 else if 61 = w8 y then 1 else if 62 = w8 y then 2 else -1) (fun u y h0 h1 => Eq.trans (b_X5_skip_29_5 y) (Eq.trans (congrArg (fun o => qB o (fun r σ => qG L xs (d + 4) CX5_skip 32 [(2, 23), (2, 2005)] (pm_psh r []) σ)) (jx_5 (d := d) y h0 h1)) rfl))).trans (sk_if ⟨fun t => ⟨t.1, t.2.1, ?_⟩, fun t => ⟨t.1, t.2.1, ?_⟩⟩)
  · have g := h.2.2.1 k t.2.1
    exact Decidable.byContradiction (fun q => Int.not_le.mpr ((jt_5 (b k) g.2.1 g.2.2).mpr q) t.2.2)
  · have g := h.2.2.1 k t.2.1
    exact Int.not_lt.mp (fun q => (jt_5 (b k) g.2.1 g.2.2).mp q t.2.2)
theorem sk_6 (h : kB v b e D) {k : Nat} : qE L xs (d + 5) nX5_skip [(2, 23), (2, 2006)] (qS (kdS v D (k : Int) f l)) = if f < 0 ∧ k < e ∧ sgn 3 (b k) then some (some (0, b k), qS (kdS v D ((k : Int) + 1) f l)) else some (some (0, 0), qS (kdS v D (k : Int) f l)) := by
  refine (k_skip (L := L) (xs := xs) (d := d) (f := f) (l := l) (k := k) h 2006 (fun y => if 43 = w8 y then 0 else if 45 = w8 y then 1 else -1) (fun u y h0 h1 => Eq.trans (b_X5_skip_29_6 y) (Eq.trans (congrArg (fun o => qB o (fun r σ => qG L xs (d + 4) CX5_skip 32 [(2, 23), (2, 2006)] (pm_psh r []) σ)) (jx_6 (d := d) y h0 h1)) rfl))).trans (sk_if ⟨fun t => ⟨t.1, t.2.1, ?_⟩, fun t => ⟨t.1, t.2.1, ?_⟩⟩)
  · have g := h.2.2.1 k t.2.1
    exact Decidable.byContradiction (fun q => Int.not_le.mpr ((jt_6 (b k) g.2.1 g.2.2).mpr q) t.2.2)
  · have g := h.2.2.1 k t.2.1
    exact Int.not_lt.mp (fun q => (jt_6 (b k) g.2.1 g.2.2).mp q t.2.2)
theorem sk_7 (h : kB v b e D) {k : Nat} : qE L xs (d + 5) nX5_skip [(2, 23), (2, 2007)] (qS (kdS v D (k : Int) f l)) = if f < 0 ∧ k < e ∧ sgn 4 (b k) then some (some (0, b k), qS (kdS v D ((k : Int) + 1) f l)) else some (some (0, 0), qS (kdS v D (k : Int) f l)) := by
  refine (k_skip (L := L) (xs := xs) (d := d) (f := f) (l := l) (k := k) h 2007 (fun y => if 42 = w8 y then 0 else if 47 = w8 y then 1 else if 37 = w8 y then 2 else -1) (fun u y h0 h1 => Eq.trans (b_X5_skip_29_7 y) (Eq.trans (congrArg (fun o => qB o (fun r σ => qG L xs (d + 4) CX5_skip 32 [(2, 23), (2, 2007)] (pm_psh r []) σ)) (jx_7 (d := d) y h0 h1)) rfl))).trans (sk_if ⟨fun t => ⟨t.1, t.2.1, ?_⟩, fun t => ⟨t.1, t.2.1, ?_⟩⟩)
  · have g := h.2.2.1 k t.2.1
    exact Decidable.byContradiction (fun q => Int.not_le.mpr ((jt_7 (b k) g.2.1 g.2.2).mpr q) t.2.2)
  · have g := h.2.2.1 k t.2.1
    exact Int.not_lt.mp (fun q => (jt_7 (b k) g.2.1 g.2.2).mp q t.2.2)
theorem sk_8 (h : kB v b e D) {k : Nat} : qE L xs (d + 5) nX5_skip [(2, 23), (2, 2008)] (qS (kdS v D (k : Int) f l)) = if f < 0 ∧ k < e ∧ b k = 63 then some (some (0, b k), qS (kdS v D ((k : Int) + 1) f l)) else some (some (0, 0), qS (kdS v D (k : Int) f l)) := by
  refine (k_skip (L := L) (xs := xs) (d := d) (f := f) (l := l) (k := k) h 2008 (fun y => if 63 = w8 y then 0 else -1) (fun u y h0 h1 => Eq.trans (b_X5_skip_29_8 y) (Eq.trans (congrArg (fun o => qB o (fun r σ => qG L xs (d + 4) CX5_skip 32 [(2, 23), (2, 2008)] (pm_psh r []) σ)) (jx_8 (d := d) y h0 h1)) rfl))).trans (sk_if ⟨fun t => ⟨t.1, t.2.1, ?_⟩, fun t => ⟨t.1, t.2.1, ?_⟩⟩)
  · have g := h.2.2.1 k t.2.1
    exact Decidable.byContradiction (fun q => Int.not_le.mpr ((jt_8 (b k) g.2.1 g.2.2).mpr q) t.2.2)
  · have g := h.2.2.1 k t.2.1
    exact Int.not_lt.mp (fun q => (jt_8 (b k) g.2.1 g.2.2).mp q t.2.2)
theorem sk_9 (h : kB v b e D) {k : Nat} : qE L xs (d + 5) nX5_skip [(2, 23), (2, 2009)] (qS (kdS v D (k : Int) f l)) = if f < 0 ∧ k < e ∧ b k = 59 then some (some (0, b k), qS (kdS v D ((k : Int) + 1) f l)) else some (some (0, 0), qS (kdS v D (k : Int) f l)) := by
  refine (k_skip (L := L) (xs := xs) (d := d) (f := f) (l := l) (k := k) h 2009 (fun y => if 59 = w8 y then 0 else -1) (fun u y h0 h1 => Eq.trans (b_X5_skip_29_9 y) (Eq.trans (congrArg (fun o => qB o (fun r σ => qG L xs (d + 4) CX5_skip 32 [(2, 23), (2, 2009)] (pm_psh r []) σ)) (jx_9 (d := d) y h0 h1)) rfl))).trans (sk_if ⟨fun t => ⟨t.1, t.2.1, ?_⟩, fun t => ⟨t.1, t.2.1, ?_⟩⟩)
  · have g := h.2.2.1 k t.2.1
    exact Decidable.byContradiction (fun q => Int.not_le.mpr ((jt_9 (b k) g.2.1 g.2.2).mpr q) t.2.2)
  · have g := h.2.2.1 k t.2.1
    exact Int.not_lt.mp (fun q => (jt_9 (b k) g.2.1 g.2.2).mp q t.2.2)
end OTJ
end
