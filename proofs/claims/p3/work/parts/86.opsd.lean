/-! CALLS that keep the relation: image, back, body, keep, row (written by wip/p1/86.opsd.py) -/
section OD2
variable {L : Nat} {xs : Nat → Int} {d : Nat} {v w : Nat → Nat → Int} {k n : Nat}
theorem lpr_img2 : qG L xs (d + 1) CX12_image 33 [(2, 63), (0, 0)] [] (qS v) = some (some (0, v 63 33), qS (pm_up (pm_up (pm_up (pm_up v 83 0 (v 63 33)) 83 1 (v 63 34)) 83 2 (v 63 35)) 83 3 (v 63 32))) := by
  simp (disch := omega) only [b_X12_image_33, b_X12_image_38, b_X12_image_48, b_X12_image_49, b_X12_image_55, e_X12_led, b_X12_led_0_v0, b_X12_led_0_v1, b_X12_led_0_v2, b_X12_led_0_v3, b_X12_led_0_o, b_X12_led_32, b_X12_led_37, b_X12_led_42, b_X12_led_47, b_X12_led_52, if_pos, if_neg, w32_id, up_ne, Int.reduceAdd, qB_some, psh_some, psh_none, and_true, true_and, and_false, false_and, and_self, or_true, true_or, or_false, false_or, not_true_eq_false, not_false_eq_true, ↓reduceIte, Int.reduceEq, Int.reduceLT, Int.reduceLE, Int.reduceToNat, Nat.reduceEqDiff, Nat.reduceAdd]
theorem opr_image (h : rlR v) : opR L xs v nX11_image nX12_image 0 [] := by
  obtain ⟨⟨hD, hd0⟩, -⟩ := h.2.2.2.2.1
  obtain ⟨⟨e0, e1, e2, e3⟩, q1, -, e4, -⟩ := h.2.2.2.2.2.1
  obtain ⟨w0, hw0⟩ : ∃ w0, w0 = pm_up (pm_up (pm_up (pm_up v 48 0 (v 47 0)) 48 1 (v 47 1)) 48 2 (v 47 2)) 48 3 (v 47 3) := ⟨_, rfl⟩
  obtain ⟨w1, hw1⟩ : ∃ w1, w1 = pm_up (pm_cpy w0 42 45 0 0 36) 0 11 1 := ⟨_, rfl⟩
  have hc : ∀ c j, ¬ (c = 45 ∧ j < 36) → pm_cpy w0 42 45 0 0 36 c j = w0 c j := fun c j q => if_neg (by omega)
  have hu0 : ∀ c j, ¬ (c = 48 ∧ j < 4) → w0 c j = v c j := fun c j q => by
    rw [hw0, up_ne (by omega), up_ne (by omega), up_ne (by omega), up_ne (by omega)]
  have hu1 : ∀ c j, ¬ (c = 48 ∧ j < 4 ∨ c = 45 ∧ j < 36 ∨ c = 0 ∧ j = 11) → w1 c j = v c j := fun c j q => by
    rw [hw1, up_ne (by omega), hc c j (by omega), hu0 c j (by omega)]
  have h45 : ∀ i, i < 36 → w1 45 i = v 42 i := fun i hi => by
    rw [hw1, up_ne (by omega)]
    refine (if_pos (by omega)).trans ?_
    rw [show 0 + (i - 0) = i by omega]
    exact hu0 42 i (by omega)
  obtain ⟨w2, m1, m2, m3⟩ := lpr_img1 (L := L) (xs := xs) (d := 999) 36 0 (pm_up w1 63 36 1) (by omega)
  obtain ⟨w3, hw3⟩ : ∃ w3, w3 = pm_up (pm_up (pm_up (pm_up w2 83 0 (w2 63 33)) 83 1 (w2 63 34)) 83 2 (w2 63 35)) 83 3 (w2 63 32) := ⟨_, rfl⟩
  have hu2 : ∀ c j, ¬ (c = 48 ∧ j < 4 ∨ c = 45 ∧ j < 36 ∨ c = 0 ∧ j = 11 ∨ c = 82 ∧ j < 36 ∨ c = 63 ∧ j = 36) → w2 c j = v c j := fun c j q => by
    rw [m2 c j (by omega), up_ne (by omega), hu1 c j (by omega)]
  have hu : ∀ c j, ¬ (c = 48 ∧ j < 4 ∨ c = 45 ∧ j < 36 ∨ c = 0 ∧ j = 11 ∨ c = 82 ∧ j < 36 ∨ c = 63 ∧ j = 36 ∨ c = 83 ∧ j < 4) → w3 c j = v c j := fun c j q => by
    rw [hw3, up_ne (by omega), up_ne (by omega), up_ne (by omega), up_ne (by omega), hu2 c j (by omega)]
  have h82 : ∀ i, i < 36 → w3 82 i = v 42 i := fun i hi => by
    rw [hw3, up_ne (by omega), up_ne (by omega), up_ne (by omega), up_ne (by omega), m3 i (by omega) hi, up_ne (by omega), hu1 79 i (by omega)]
    exact (hD i hi).1
  have h45' : ∀ i, i < 36 → w3 45 i = v 42 i := fun i hi => by
    rw [hw3, up_ne (by omega), up_ne (by omega), up_ne (by omega), up_ne (by omega), m2 45 i (by omega), up_ne (by omega)]
    exact h45 i hi
  have h48 : ∀ j, w3 48 j = w0 48 j := fun j => by
    rw [hw3, up_ne (by omega), up_ne (by omega), up_ne (by omega), up_ne (by omega), m2 48 j (by omega), up_ne (by omega), hw1, up_ne (by omega), hc 48 j (by omega)]
  have h011 : w3 0 11 = 1 := by
    rw [hw3, up_ne (by omega), up_ne (by omega), up_ne (by omega), up_ne (by omega), m2 0 11 (by omega), up_ne (by omega), hw1, up_eq]
  have h6336 : w3 63 36 = 1 := by
    rw [hw3, up_ne (by omega), up_ne (by omega), up_ne (by omega), up_ne (by omega), m2 63 36 (by omega), up_eq]
  refine ⟨v 47 1, w1, w3, ?_, ?_, ?_⟩
  · have a1 : qE L xs 999 nX3_become [(2, 48), (2, 47)] (qS v) = some (none, qS w0) := by
      simp (disch := omega) only [e_X3_become_48_47, b_X3_become_48_47_0, b_X3_become_48_47_8, b_X3_become_48_47_16, b_X3_become_48_47_24, b_X3_become_48_47_32, up_ne, qB_some, psh_some, psh_none, and_true, true_and, and_false, false_and, and_self, or_true, true_or, or_false, false_or, not_true_eq_false, not_false_eq_true, ↓reduceIte, Int.reduceEq, Int.reduceLT, Int.reduceLE, Int.reduceToNat, Nat.reduceEqDiff, Nat.reduceAdd]
      rw [hw0]
    rw [e_X11_image, b_X11_image_0, a1, qB_some, psh_none, b_X11_image_11, c_become44, qB_some, psh_none, b_X11_image_22, ← hw1, b_X11_image_27, hu1 47 1 (by omega)]
  · have l2 := lpr_img2 (L := L) (xs := xs) (d := 998) (v := w2)
    rw [← hw3, hu2 63 33 (by omega), e1] at l2
    rw [e_X12_image, b_X12_image_0, b_X12_image_5]
    refine Eq.trans m1 ?_
    rw [b_X12_image_31]
    exact l2
  · have hD3 : rlD w3 := by
      refine ⟨⟨fun i hi => ?_, fun a ha => ?_⟩, fun _ => ⟨fun i hi => ?_, fun a ha => ?_⟩⟩
      · rw [hu 79 i (by omega), hu 42 i (by omega)]
        exact hD i hi
      · rw [hu 42 (7 * a) (by omega)]
        exact hd0 a ha
      · rw [h82 i hi, h45' i hi]
        exact ⟨rfl, (hD i hi).2⟩
      · rw [h45' (7 * a) (by omega)]
        exact hd0 a ha
    have hG3 : rlG w3 := by
      have z0 : w0 48 0 = v 47 0 := by rw [hw0]; simp (disch := omega) only [up_ne, up_eq]
      have z1 : w0 48 1 = v 47 1 := by rw [hw0]; simp (disch := omega) only [up_ne, up_eq]
      have z2 : w0 48 2 = v 47 2 := by rw [hw0]; simp (disch := omega) only [up_ne, up_eq]
      have z3 : w0 48 3 = v 47 3 := by rw [hw0]; simp (disch := omega) only [up_ne, up_eq]
      have y0 : w3 83 0 = v 47 1 := by rw [hw3]; simp (disch := omega) only [up_ne, up_eq, hu2, e1]
      have y1 : w3 83 1 = v 47 2 := by rw [hw3]; simp (disch := omega) only [up_ne, up_eq, hu2, e2]
      have y2 : w3 83 2 = v 47 3 := by rw [hw3]; simp (disch := omega) only [up_ne, up_eq, hu2, e3]
      have y3 : w3 83 3 = v 47 0 := by rw [hw3]; simp (disch := omega) only [up_ne, up_eq, hu2, e0]
      refine ⟨⟨?_, ?_, ?_, ?_⟩, ?_, fun _ => ⟨⟨?_, ?_, ?_, ?_⟩, ?_⟩, ?_, ?_⟩
      · rw [hu 63 32 (by omega), hu 47 0 (by omega)]; exact e0
      · rw [hu 63 33 (by omega), hu 47 1 (by omega)]; exact e1
      · rw [hu 63 34 (by omega), hu 47 2 (by omega)]; exact e2
      · rw [hu 63 35 (by omega), hu 47 3 (by omega)]; exact e3
      · rw [hu 47 0 (by omega)]; exact q1
      · rw [y3, h48, z0]
      · rw [y0, h48, z1]
      · rw [y1, h48, z2]
      · rw [y2, h48, z3]
      · rw [h48, z0]; exact q1
      · rw [h011, h6336]
      · rw [h011]; omega
    exact rlR_or h (Or.inr (fun c j q => hu c j (by unfold dsW at q; omega))) (Or.inr (fun c j q => hu c j (by unfold dsC at q; omega))) (Or.inr (fun c j q => hu c j (by unfold dsT at q; omega))) (Or.inr (fun c j q => hu c j (by unfold dsL at q; omega))) (Or.inl hD3) (Or.inl hG3) (Or.inr (fun c j q => hu c j (by unfold dsB at q; omega))) (Or.inr (fun c j q => hu c j (by unfold dsS at q; omega))) (Or.inr (fun c j q => hu c j (by unfold dsN at q; omega)))
theorem cr_become41 : qE L xs (d + 1) nX2_become [(2, 41), (2, 44)] (qS v) = some (none, qS (pm_cpy v 45 42 0 0 36)) := by
  rw [e_X2_become_41_44, b_X2_become_41_44_0]
  refine (qG_cpy (s := 45) (t := 42) (e := 0) (ns := 36) (nt := 36) rfl rfl rfl rfl (Or.inl rfl) (by omega) (by omega) (by omega) (by omega) (by omega) rfl (nr_of rfl) (nr_of rfl)).trans ?_
  exact b_X2_become_41_44_18
theorem opr_back (h : rlR v) : opR L xs v nX11_back nX12_back 0 [] := by
  obtain ⟨⟨hD, hd0⟩, hI⟩ := h.2.2.2.2.1
  obtain ⟨⟨e0, e1, e2, e3⟩, q1, hJ, e4, e5⟩ := h.2.2.2.2.2.1
  by_cases g : v 0 11 = 0
  · refine opR_no (r := -5) h ?_ ?_
    · rw [e_X11_back, b_X11_back_0, if_pos g, b_X11_back_7]
    · rw [e_X12_back, b_X12_back_0, if_pos (by omega), b_X12_back_7]
  · have g1 : v 0 11 = 1 := by omega
    obtain ⟨hI1, hI2⟩ := hI g1
    obtain ⟨⟨j0, j1, j2, j3⟩, j4⟩ := hJ g1
    obtain ⟨w0, hw0⟩ : ∃ w0, w0 = pm_up (pm_up (pm_up (pm_up v 47 0 (v 48 0)) 47 1 (v 48 1)) 47 2 (v 48 2)) 47 3 (v 48 3) := ⟨_, rfl⟩
    obtain ⟨w1, hw1⟩ : ∃ w1, w1 = pm_cpy w0 45 42 0 0 36 := ⟨_, rfl⟩
    have hu0 : ∀ c j, ¬ (c = 47 ∧ j < 4) → w0 c j = v c j := fun c j q => by
      rw [hw0, up_ne (by omega), up_ne (by omega), up_ne (by omega), up_ne (by omega)]
    have hc : ∀ c j, ¬ (c = 42 ∧ j < 36) → w1 c j = w0 c j := fun c j q => by
      rw [hw1]
      exact if_neg (by omega)
    have hu1 : ∀ c j, ¬ (c = 47 ∧ j < 4 ∨ c = 42 ∧ j < 36) → w1 c j = v c j := fun c j q => by
      rw [hc c j (by omega), hu0 c j (by omega)]
    have h42 : ∀ i, i < 36 → w1 42 i = v 45 i := fun i hi => by
      rw [hw1]
      refine (if_pos (by omega)).trans ?_
      rw [show 0 + (i - 0) = i by omega]
      exact hu0 45 i (by omega)
    obtain ⟨w2, m1, m2, m3⟩ := lpr_back1 (L := L) (xs := xs) (d := 999) 36 0 w1 (by omega)
    have hu2 : ∀ c j, ¬ (c = 47 ∧ j < 4 ∨ c = 42 ∧ j < 36 ∨ c = 79 ∧ j < 36) → w2 c j = v c j := fun c j q => by
      rw [m2 c j (by omega), hu1 c j (by omega)]
    obtain ⟨w3, hw3⟩ : ∃ w3, w3 = pm_up (pm_up (pm_up (pm_up w2 63 33 (v 48 1)) 63 34 (v 48 2)) 63 35 (v 48 3)) 63 32 (v 48 0) := ⟨_, rfl⟩
    have hu : ∀ c j, ¬ (c = 47 ∧ j < 4 ∨ c = 42 ∧ j < 36 ∨ c = 79 ∧ j < 36 ∨ c = 63 ∧ 32 ≤ j ∧ j ≤ 35) → w3 c j = v c j := fun c j q => by
      rw [hw3, up_ne (by omega), up_ne (by omega), up_ne (by omega), up_ne (by omega), hu2 c j (by omega)]
    have h47 : ∀ j, w3 47 j = w0 47 j := fun j => by
      rw [hw3, up_ne (by omega), up_ne (by omega), up_ne (by omega), up_ne (by omega), m2 47 j (by omega), hc 47 j (by omega)]
    have z0 : w0 47 0 = v 48 0 := by rw [hw0]; simp (disch := omega) only [up_ne, up_eq]
    have z1 : w0 47 1 = v 48 1 := by rw [hw0]; simp (disch := omega) only [up_ne, up_eq]
    have z2 : w0 47 2 = v 48 2 := by rw [hw0]; simp (disch := omega) only [up_ne, up_eq]
    have z3 : w0 47 3 = v 48 3 := by rw [hw0]; simp (disch := omega) only [up_ne, up_eq]
    refine ⟨v 48 1, w1, w3, ?_, ?_, ?_⟩
    · have a1 : qE L xs 999 nX3_become [(2, 47), (2, 48)] (qS v) = some (none, qS w0) := by
        simp (disch := omega) only [e_X3_become_47_48, b_X3_become_47_48_0, b_X3_become_47_48_8, b_X3_become_47_48_16, b_X3_become_47_48_24, b_X3_become_47_48_32, up_ne, qB_some, psh_some, psh_none, and_true, true_and, and_false, false_and, and_self, or_true, true_or, or_false, false_or, not_true_eq_false, not_false_eq_true, ↓reduceIte, Int.reduceEq, Int.reduceLT, Int.reduceLE, Int.reduceToNat, Nat.reduceEqDiff, Nat.reduceAdd]
        rw [hw0]
      rw [e_X11_back, b_X11_back_0, if_neg g, b_X11_back_10, a1, qB_some, psh_none, b_X11_back_21, cr_become41, ← hw1, qB_some, psh_none, b_X11_back_32, hc 47 1 (by omega), z1]
    · rw [e_X12_back, b_X12_back_0, hu1 63 36 (by omega), if_neg (by omega), b_X12_back_10]
      refine Eq.trans m1 ?_
      rw [b_X12_back_36, hu2 83 0 (by omega), j1, b_X12_back_46, up_ne (by omega), hu2 83 1 (by omega), j2, b_X12_back_56, up_ne (by omega), up_ne (by omega), hu2 83 2 (by omega), j3, b_X12_back_66, up_ne (by omega), up_ne (by omega), up_ne (by omega), hu2 83 3 (by omega), j0, ← hw3, b_X12_back_76, hw3]
      simp (disch := omega) only [up_ne, up_eq]
    · have hD3 : rlD w3 := by
        have k42 : ∀ i, i < 36 → w3 42 i = v 45 i := fun i hi => by
          rw [hw3, up_ne (by omega), up_ne (by omega), up_ne (by omega), up_ne (by omega), m2 42 i (by omega)]
          exact h42 i hi
        have k79 : ∀ i, i < 36 → w3 79 i = v 82 i := fun i hi => by
          rw [hw3, up_ne (by omega), up_ne (by omega), up_ne (by omega), up_ne (by omega), m3 i (by omega) hi, hu1 82 i (by omega)]
        refine ⟨⟨fun i hi => ?_, fun a ha => ?_⟩, fun _ => ⟨fun i hi => ?_, fun a ha => ?_⟩⟩
        · rw [k42 i hi, k79 i hi]
          exact hI1 i hi
        · rw [k42 (7 * a) (by omega)]
          exact hI2 a ha
        · rw [hu 82 i (by omega), hu 45 i (by omega)]
          exact hI1 i hi
        · rw [hu 45 (7 * a) (by omega)]
          exact hI2 a ha
      have hG3 : rlG w3 := by
        have y0 : w3 63 32 = v 48 0 := by rw [hw3]; simp (disch := omega) only [up_ne, up_eq]
        have y1 : w3 63 33 = v 48 1 := by rw [hw3]; simp (disch := omega) only [up_ne, up_eq]
        have y2 : w3 63 34 = v 48 2 := by rw [hw3]; simp (disch := omega) only [up_ne, up_eq]
        have y3 : w3 63 35 = v 48 3 := by rw [hw3]; simp (disch := omega) only [up_ne, up_eq]
        refine rG_set h.2.2.2.2.2.1 ?_ ?_ ?_ ?_ ?_ (fun c j q x1 x2 => hu c j (by unfold dsG at q; omega))
        · rw [y0, h47, z0]
        · rw [y1, h47, z1]
        · rw [y2, h47, z2]
        · rw [y3, h47, z3]
        · rw [h47, z0]; exact j4
      exact rlR_or h (Or.inr (fun c j q => hu c j (by unfold dsW at q; omega))) (Or.inr (fun c j q => hu c j (by unfold dsC at q; omega))) (Or.inr (fun c j q => hu c j (by unfold dsT at q; omega))) (Or.inr (fun c j q => hu c j (by unfold dsL at q; omega))) (Or.inl hD3) (Or.inl hG3) (Or.inr (fun c j q => hu c j (by unfold dsB at q; omega))) (Or.inr (fun c j q => hu c j (by unfold dsS at q; omega))) (Or.inr (fun c j q => hu c j (by unfold dsN at q; omega)))
theorem opr_body (h : rlR v) (a : Int) : opR L xs v nX11_body nX12_body 0 [(0, a)] := by
  obtain ⟨b1, b2, b3, b4, b5, b6⟩ := h.2.2.2.2.2.2.1
  obtain ⟨N, hN⟩ : ∃ N : Nat, v 49 2 = (N : Int) := ⟨(v 49 2).toNat, by omega⟩
  by_cases g : 0 ≤ a ∧ a < 8
  · by_cases g2 : N < 50
    · obtain ⟨w1, hw1⟩ : ∃ w1, w1 = pm_up (pm_up v 50 N a) 49 2 ((N : Int) + 1) := ⟨_, rfl⟩
      obtain ⟨w2, hw2⟩ : ∃ w2, w2 = pm_up (pm_up w1 84 N a) 63 39 ((N : Int) + 1) := ⟨_, rfl⟩
      have hu : ∀ c j, ¬ (c = 50 ∧ j = N ∨ c = 49 ∧ j = 2 ∨ c = 84 ∧ j = N ∨ c = 63 ∧ j = 39) → w2 c j = v c j := fun c j q => by
        rw [hw2, up_ne (by omega), up_ne (by omega), hw1, up_ne (by omega), up_ne (by omega)]
      have k492 : w2 49 2 = (N : Int) + 1 := by rw [hw2, hw1]; simp (disch := omega) only [up_ne, up_eq]
      refine ⟨(N : Int), w1, w2, ?_, ?_, ?_⟩
      · rw [e_X11_body, b_X11_body_0, cb_hasKind, qB_some, psh_some, b_X11_body_4, zb_0, if_pos g, b_X11_body_9, if_pos (by omega), b_X11_body_26, e_X0_add, b_X0_add_0, if_pos (by omega), b_X0_add_9, if_pos (by omega), hN, Int.toNat_natCast, b_X0_add_19, up_ne (by omega), hN, w32_id (by omega) (by omega), ← hw1, b_X0_add_29, hw1, up_eq, w32_id (by omega) (by omega), show (N : Int) + 1 - 1 = (N : Int) by omega, qB_some, psh_some, b_X11_body_34]
      · have k : w1 63 39 = (N : Int) := by rw [hw1, up_ne (by omega), up_ne (by omega)]; omega
        rw [e_X12_body, b_X12_body_0, c_within, qB_some, psh_some, b_X12_body_9, zb_0, if_pos (by omega), b_X12_body_14, k, if_neg (by omega), b_X12_body_26, k, if_pos (by omega), Int.toNat_natCast, b_X12_body_36, up_ne (by omega), k, w32_id (by omega) (by omega), ← hw2, b_X12_body_46, hw2, up_eq, w32_id (by omega) (by omega), show (N : Int) + 1 - 1 = (N : Int) by omega]
      · have hB : rlB w2 := by
          refine ⟨by rw [k492]; omega, ?_, fun i hi => ?_, ?_, ?_, fun i hi hi2 => ?_⟩
          · rw [k492, hw2, up_eq]
          · rw [k492] at hi
            by_cases z : i = N
            · subst z
              have z1 : w2 84 i = a := by rw [hw2]; simp (disch := omega) only [up_ne, up_eq]
              have z2 : w2 50 i = a := by rw [hw2, hw1]; simp (disch := omega) only [up_ne, up_eq]
              rw [z1, z2]
              exact ⟨rfl, by omega, by omega⟩
            · rw [hu 84 i (by omega), hu 50 i (by omega)]
              exact b3 i (by omega)
          · rw [hu 63 42 (by omega), hu 49 3 (by omega)]; exact b4
          · rw [hu 49 3 (by omega)]; exact b5
          · rw [hu 49 3 (by omega)] at hi
            rw [hu 85 i (by omega), hu 51 i (by omega)]
            exact b6 i hi hi2
        have hS : rlS w2 := fun j hj => by
          have q := h.2.2.2.2.2.2.2.1 j hj
          rw [hu 53 j (by omega), hu 54 j (by omega), hu 55 j (by omega), hu 86 j (by omega), hu 87 j (by omega), k492]
          refine ⟨q.1, q.2.1, fun z => ?_, fun z => ?_⟩
          · have := q.2.2.1 z
            omega
          · obtain ⟨z1, z2, z3, z4⟩ := q.2.2.2 z
            refine ⟨z1, z2, z3, fun i hi => ?_⟩
            rw [hu 88 (60 * j + i) (by omega), hu (57 + j) i (by omega)]
            exact z4 i hi
        exact rlR_or h (Or.inr (fun c j q => hu c j (by unfold dsW at q; omega))) (Or.inr (fun c j q => hu c j (by unfold dsC at q; omega))) (Or.inr (fun c j q => hu c j (by unfold dsT at q; omega))) (Or.inr (fun c j q => hu c j (by unfold dsL at q; omega))) (Or.inr (fun c j q => hu c j (by unfold dsD at q; omega))) (Or.inr (fun c j q => hu c j (by unfold dsG at q; omega))) (Or.inl hB) (Or.inl hS) (Or.inr (fun c j q => hu c j (by unfold dsN at q; omega)))
    · refine opR_no (r := -3) h ?_ ?_
      · rw [e_X11_body, b_X11_body_0, cb_hasKind, qB_some, psh_some, b_X11_body_4, zb_0, if_pos g, b_X11_body_9, if_neg (by omega), b_X11_body_21, b_X11_body_34]
      · rw [e_X12_body, b_X12_body_0, c_within, qB_some, psh_some, b_X12_body_9, zb_0, if_pos (by omega), b_X12_body_14, if_pos (by omega), b_X12_body_23]
  · refine opR_no (r := -1) h ?_ ?_
    · rw [e_X11_body, b_X11_body_0, cb_hasKind, qB_some, psh_some, b_X11_body_4, zb_0, if_neg g, b_X11_body_7]
    · rw [e_X12_body, b_X12_body_0, c_within, qB_some, psh_some, b_X12_body_9, zb_0, if_neg (by omega), b_X12_body_12]
/-- one shelf holds another thing -/
theorem rS_set {K : Nat} (hK6 : K < 6) (h : rlS v) (hc : ∀ c j, dsS c j → ¬ ((c = 53 ∨ c = 54 ∨ c = 55 ∨ c = 86 ∨ c = 87) ∧ j = K) → ¬ (c = 57 + K) → ¬ (c = 88 ∧ 60 * K ≤ j ∧ j < 60 * K + 60) → w c j = v c j) (hK : (-2 ≤ w 53 K ∧ w 53 K ≤ 4) ∧ (w 53 K = -1 → w 86 K = -1) ∧ (w 53 K = -2 → w 86 K = w 54 K ∧ 0 ≤ w 54 K ∧ w 54 K < w 49 2) ∧ (0 ≤ w 53 K → w 86 K = 50 + w 53 K ∧ w 87 K = w 55 K ∧ (0 ≤ w 55 K ∧ w 55 K ≤ 60) ∧ ∀ i, i < 60 → w 88 (60 * K + i) = w (57 + K) i ∧ rng (w 53 K) (w (57 + K) i))) : rlS w := by
  unfold dsS at hc
  intro j hj
  by_cases z : j = K
  · rw [z]; exact hK
  · have q := h j hj
    rw [hc 53 j (by omega) (by omega) (by omega) (by omega), hc 54 j (by omega) (by omega) (by omega) (by omega), hc 55 j (by omega) (by omega) (by omega) (by omega), hc 86 j (by omega) (by omega) (by omega) (by omega), hc 87 j (by omega) (by omega) (by omega) (by omega), hc 49 2 (by omega) (by omega) (by omega) (by omega)]
    refine ⟨q.1, q.2.1, q.2.2.1, fun y => ?_⟩
    obtain ⟨z1, z2, z3, z4⟩ := q.2.2.2 y
    refine ⟨z1, z2, z3, fun i hi => ?_⟩
    rw [hc 88 (60 * j + i) (by omega) (by omega) (by omega) (by omega), hc (57 + j) i (by omega) (by omega) (by omega) (by omega)]
    exact z4 i hi
theorem opr_keep (h : rlR v) (a b : Int) : opR L xs v nX11_keep nX12_keep 0 [(0, a), (0, b)] := by
  obtain ⟨b1, b2, -⟩ := h.2.2.2.2.2.2.1
  by_cases g : (0 ≤ a ∧ a < 6) ∧ (b = -1 ∨ (0 ≤ b ∧ b < v 49 2))
  · obtain ⟨K, rfl⟩ : ∃ K : Nat, a = (K : Int) := ⟨a.toNat, by omega⟩
    have mb : ∀ w : Nat → Nat → Int, w 63 39 = v 63 39 → qE L xs 1000 nX12_keep [(2, 63), (0, (K : Int)), (0, b)] (qS w) = some (some (0, 1), qS (pm_up (pm_up w 86 K b) 87 K 0)) := fun w hw => by
      rw [e_X12_keep, b_X12_keep_0, ms_isShelf, qB_some, psh_some, b_X12_keep_4, zb_0, if_pos g.1, b_X12_keep_7]
      by_cases z : b = -1
      · rw [if_pos z, b_X12_keep_22, if_pos (by omega), Int.toNat_natCast, b_X12_keep_29, if_pos (by omega), Int.toNat_natCast, b_X12_keep_36]
      · rw [if_neg z, b_X12_keep_12, mb_isBody b (by omega) (by omega), qB_some, psh_some, b_X12_keep_17, zb_0, if_pos (by omega), b_X12_keep_22, if_pos (by omega), Int.toNat_natCast, b_X12_keep_29, if_pos (by omega), Int.toNat_natCast, b_X12_keep_36]
    by_cases z : b = -1
    · obtain ⟨w1, hw1⟩ : ∃ w1, w1 = pm_up v 53 K (-1) := ⟨_, rfl⟩
      obtain ⟨w2, hw2⟩ : ∃ w2, w2 = pm_up (pm_up w1 86 K b) 87 K 0 := ⟨_, rfl⟩
      have hu : ∀ c j, ¬ ((c = 53 ∨ c = 86 ∨ c = 87) ∧ j = K) → w2 c j = v c j := fun c j q => by
        rw [hw2, up_ne (by omega), up_ne (by omega), hw1, up_ne (by omega)]
      refine ⟨1, w1, w2, ?_, ?_, ?_⟩
      · rw [e_X11_keep, b_X11_keep_0, cs_has, qB_some, psh_some, b_X11_keep_4, zb_0, if_pos g.1, b_X11_keep_7, if_pos z, b_X11_keep_25, if_pos z, b_X11_keep_30, e_X8_clear, b_X8_clear_0, cs_has, qB_some, psh_some, b_X8_clear_4, zb_0, if_pos g.1, b_X8_clear_7, if_pos (by omega), Int.toNat_natCast, ← hw1, b_X8_clear_14, qB_some, psh_none, b_X11_keep_38, b_X11_keep_50]
      · rw [mb w1 (by rw [hw1, up_ne (by omega)]), ← hw2]
      · have hS : rlS w2 := by
          have z1 : w2 53 K = -1 := by rw [hw2, hw1]; simp (disch := omega) only [up_ne, up_eq]
          have z2 : w2 86 K = b := by rw [hw2]; simp (disch := omega) only [up_ne, up_eq]
          refine rS_set (K := K) (by omega) h.2.2.2.2.2.2.2.1 (fun c j q x1 x2 x3 => hu c j (by omega)) ?_
          rw [z1, z2]
          exact ⟨by omega, fun _ => z, fun q => by omega, fun q => by omega⟩
        exact rlR_or h (Or.inr (fun c j q => hu c j (by unfold dsW at q; omega))) (Or.inr (fun c j q => hu c j (by unfold dsC at q; omega))) (Or.inr (fun c j q => hu c j (by unfold dsT at q; omega))) (Or.inr (fun c j q => hu c j (by unfold dsL at q; omega))) (Or.inr (fun c j q => hu c j (by unfold dsD at q; omega))) (Or.inr (fun c j q => hu c j (by unfold dsG at q; omega))) (Or.inr (fun c j q => hu c j (by unfold dsB at q; omega))) (Or.inl hS) (Or.inr (fun c j q => hu c j (by unfold dsN at q; omega)))
    · have g3 : 0 ≤ b ∧ b < v 49 2 := by omega
      obtain ⟨w1, hw1⟩ : ∃ w1, w1 = pm_up (pm_up v 53 K (-2)) 54 K b := ⟨_, rfl⟩
      obtain ⟨w2, hw2⟩ : ∃ w2, w2 = pm_up (pm_up w1 86 K b) 87 K 0 := ⟨_, rfl⟩
      have hu : ∀ c j, ¬ ((c = 53 ∨ c = 54 ∨ c = 86 ∨ c = 87) ∧ j = K) → w2 c j = v c j := fun c j q => by
        rw [hw2, up_ne (by omega), up_ne (by omega), hw1, up_ne (by omega), up_ne (by omega)]
      refine ⟨1, w1, w2, ?_, ?_, ?_⟩
      · rw [e_X11_keep, b_X11_keep_0, cs_has, qB_some, psh_some, b_X11_keep_4, zb_0, if_pos g.1, b_X11_keep_7, if_neg z, b_X11_keep_12, cb_has b (by omega), qB_some, psh_some, b_X11_keep_20, zb_0, if_pos g3, b_X11_keep_25, if_neg z, b_X11_keep_41, e_X8_holdBrick, b_X8_holdBrick_0, cs_has, qB_some, psh_some, b_X8_holdBrick_4, zb_0, if_pos g.1, b_X8_holdBrick_7, if_pos (by omega), Int.toNat_natCast, b_X8_holdBrick_15, if_pos (by omega), Int.toNat_natCast, ← hw1, b_X8_holdBrick_22, qB_some, psh_none, b_X11_keep_50]
      · rw [mb w1 (by rw [hw1, up_ne (by omega), up_ne (by omega)]), ← hw2]
      · have hS : rlS w2 := by
          have z1 : w2 53 K = -2 := by rw [hw2, hw1]; simp (disch := omega) only [up_ne, up_eq]
          have z2 : w2 86 K = b := by rw [hw2]; simp (disch := omega) only [up_ne, up_eq]
          have z3 : w2 54 K = b := by rw [hw2, hw1]; simp (disch := omega) only [up_ne, up_eq]
          refine rS_set (K := K) (by omega) h.2.2.2.2.2.2.2.1 (fun c j q x1 x2 x3 => hu c j (by omega)) ?_
          rw [z1, z2, z3, hu 49 2 (by omega)]
          exact ⟨by omega, fun q => by omega, fun _ => ⟨rfl, g3⟩, fun q => by omega⟩
        exact rlR_or h (Or.inr (fun c j q => hu c j (by unfold dsW at q; omega))) (Or.inr (fun c j q => hu c j (by unfold dsC at q; omega))) (Or.inr (fun c j q => hu c j (by unfold dsT at q; omega))) (Or.inr (fun c j q => hu c j (by unfold dsL at q; omega))) (Or.inr (fun c j q => hu c j (by unfold dsD at q; omega))) (Or.inr (fun c j q => hu c j (by unfold dsG at q; omega))) (Or.inr (fun c j q => hu c j (by unfold dsB at q; omega))) (Or.inl hS) (Or.inr (fun c j q => hu c j (by unfold dsN at q; omega)))
  · refine opR_no (r := -1) h ?_ ?_
    · rw [e_X11_keep, b_X11_keep_0, cs_has, qB_some, psh_some, b_X11_keep_4, zb_0]
      by_cases g1 : 0 ≤ a ∧ a < 6
      · rw [if_pos g1, b_X11_keep_7, if_neg (by omega), b_X11_keep_12, cb_has b (by omega), qB_some, psh_some, b_X11_keep_20, zb_0, if_neg (by omega), b_X11_keep_23]
      · rw [if_neg g1, b_X11_keep_23]
    · rw [e_X12_keep, b_X12_keep_0, ms_isShelf, qB_some, psh_some, b_X12_keep_4, zb_0]
      by_cases g1 : 0 ≤ a ∧ a < 6
      · rw [if_pos g1, b_X12_keep_7, if_neg (by omega), b_X12_keep_12, mb_isBody b (by omega) (by omega), qB_some, psh_some, b_X12_keep_17, zb_0, if_neg (by omega), b_X12_keep_20]
      · rw [if_neg g1, b_X12_keep_20]
theorem opr_row (h : rlR v) (a s n : Int) : opR L xs v nX11_row nX12_row 0 [(0, a), (0, s), (0, n)] := by
  by_cases g : (0 ≤ a ∧ a < 6) ∧ (0 ≤ s ∧ s ≤ 4) ∧ n ≤ 60
  · by_cases g0 : n < 0
    · refine opR_no (r := -14) h ?_ ?_
      · rw [e_X11_row, b_X11_row_0, cs_has, qB_some, psh_some, b_X11_row_4, zb_0, if_pos g.1, b_X11_row_7, if_neg (by omega), b_X11_row_11, if_neg (by omega), b_X11_row_16, if_neg (by omega), b_X11_row_24, if_pos g0, b_X11_row_28]
      · rw [e_X12_row, b_X12_row_0, ms_isShelf, qB_some, psh_some, b_X12_row_4, zb_0, if_pos g.1, b_X12_row_7, c_within, qB_some, psh_some, b_X12_row_16, zb_0, if_pos g.2.1, b_X12_row_19, if_neg (by omega), b_X12_row_27, if_pos g0, b_X12_row_31]
    · obtain ⟨K, rfl⟩ : ∃ K : Nat, a = (K : Int) := ⟨a.toNat, by omega⟩
      obtain ⟨w1, hw1⟩ : ∃ w1, w1 = pm_fl (pm_up (pm_up v 53 K s) 55 K n) (57 + K) 0 60 0 := ⟨_, rfl⟩
      obtain ⟨w2, hw2⟩ : ∃ w2, w2 = pm_fl (pm_up (pm_up w1 86 K (50 + s)) 87 K n) 88 (60 * K) (60 * K + 60) 0 := ⟨_, rfl⟩
      have f1 : ∀ c j, ¬ (c = 57 + K ∧ j < 60) → w1 c j = pm_up (pm_up v 53 K s) 55 K n c j := fun c j q => by
        rw [hw1]; exact if_neg (by omega)
      have f2 : ∀ c j, ¬ (c = 88 ∧ 60 * K ≤ j ∧ j < 60 * K + 60) → w2 c j = pm_up (pm_up w1 86 K (50 + s)) 87 K n c j := fun c j q => by
        rw [hw2]; exact if_neg (by omega)
      have hu : ∀ c j, ¬ ((c = 53 ∨ c = 55 ∨ c = 86 ∨ c = 87) ∧ j = K ∨ c = 57 + K ∧ j < 60 ∨ c = 88 ∧ 60 * K ≤ j ∧ j < 60 * K + 60) → w2 c j = v c j := fun c j q => by
        rw [f2 c j (by omega), up_ne (by omega), up_ne (by omega), f1 c j (by omega), up_ne (by omega), up_ne (by omega)]
      refine ⟨1, w1, w2, ?_, ?_, ?_⟩
      · have hr := c_holdRow (L := L) (xs := xs) (d := 997) (v := v) (K : Int) s n (by omega) (by omega)
        rw [Int.toNat_natCast, show pm_min n 60 = n from if_neg (by omega)] at hr
        have hmx : pm_max 0 n = n := by
          unfold pm_max
          split <;> omega
        rw [hmx, ← hw1] at hr
        rw [e_X11_row, b_X11_row_0, cs_has, qB_some, psh_some, b_X11_row_4, zb_0, if_pos g.1, b_X11_row_7, if_neg (by omega), b_X11_row_11, if_neg (by omega), b_X11_row_16, if_neg (by omega), b_X11_row_24, if_neg g0, b_X11_row_31, hr, qB_some, psh_none, b_X11_row_41]
      · have l := lp_row (L := L) (xs := xs) (d := 999) (K : Int) s n (by omega) (by omega) 60 (60 * K) (pm_up (pm_up w1 86 K (50 + s)) 87 K n) (by omega)
        rw [← hw2] at l
        rw [e_X12_row, b_X12_row_0, ms_isShelf, qB_some, psh_some, b_X12_row_4, zb_0, if_pos g.1, b_X12_row_7, c_within, qB_some, psh_some, b_X12_row_16, zb_0, if_pos g.2.1, b_X12_row_19, if_neg (by omega), b_X12_row_27, if_neg g0, b_X12_row_34, if_pos (by omega), Int.toNat_natCast, w32_id (by omega) (by omega), b_X12_row_44, if_pos (by omega), Int.toNat_natCast, b_X12_row_51, w32_id (by omega) (by omega), show 60 * (K : Int) = ((60 * K : Nat) : Int) by omega]
        exact l
      · have hS : rlS w2 := by
          have z1 : w2 53 K = s := by rw [f2 53 K (by omega), up_ne (by omega), up_ne (by omega), f1 53 K (by omega), up_ne (by omega), up_eq]
          have z2 : w2 86 K = 50 + s := by rw [f2 86 K (by omega), up_ne (by omega), up_eq]
          have z3 : w2 55 K = n := by rw [f2 55 K (by omega), up_ne (by omega), up_ne (by omega), f1 55 K (by omega), up_eq]
          have z4 : w2 87 K = n := by rw [f2 87 K (by omega), up_eq]
          refine rS_set (K := K) (by omega) h.2.2.2.2.2.2.2.1 (fun c j q x1 x2 x3 => hu c j (by omega)) ?_
          rw [z1, z2, z3, z4]
          refine ⟨by omega, fun q => by omega, fun q => by omega, fun _ => ⟨rfl, rfl, by omega, fun i hi => ?_⟩⟩
          have y1 : w2 88 (60 * K + i) = 0 := by rw [hw2]; exact if_pos (by omega)
          have y2 : w2 (57 + K) i = 0 := by
            rw [f2 (57 + K) i (by omega), up_ne (by omega), up_ne (by omega), hw1]
            exact if_pos (by omega)
          rw [y1, y2]
          refine ⟨rfl, ?_⟩
          unfold rng
          omega
        exact rlR_or h (Or.inr (fun c j q => hu c j (by unfold dsW at q; omega))) (Or.inr (fun c j q => hu c j (by unfold dsC at q; omega))) (Or.inr (fun c j q => hu c j (by unfold dsT at q; omega))) (Or.inr (fun c j q => hu c j (by unfold dsL at q; omega))) (Or.inr (fun c j q => hu c j (by unfold dsD at q; omega))) (Or.inr (fun c j q => hu c j (by unfold dsG at q; omega))) (Or.inr (fun c j q => hu c j (by unfold dsB at q; omega))) (Or.inl hS) (Or.inr (fun c j q => hu c j (by unfold dsN at q; omega)))
  · refine opR_no (r := -1) h ?_ ?_
    · rw [e_X11_row, b_X11_row_0, cs_has, qB_some, psh_some, b_X11_row_4, zb_0]
      by_cases g1 : 0 ≤ a ∧ a < 6
      · rw [if_pos g1, b_X11_row_7]
        by_cases g2 : s < 0
        · rw [if_pos g2, b_X11_row_22]
        · rw [if_neg g2, b_X11_row_11]
          by_cases g3 : 4 < s
          · rw [if_pos g3, b_X11_row_22]
          · rw [if_neg g3, b_X11_row_16, if_pos (by omega), b_X11_row_22]
      · rw [if_neg g1, b_X11_row_22]
    · rw [e_X12_row, b_X12_row_0, ms_isShelf, qB_some, psh_some, b_X12_row_4, zb_0]
      by_cases g1 : 0 ≤ a ∧ a < 6
      · rw [if_pos g1, b_X12_row_7, c_within, qB_some, psh_some, b_X12_row_16, zb_0]
        by_cases g2 : 0 ≤ s ∧ s ≤ 4
        · rw [if_pos g2, b_X12_row_19, if_pos (by omega), b_X12_row_25]
        · rw [if_neg g2, b_X12_row_25]
      · rw [if_neg g1, b_X12_row_25]
end OD2
